/-! CORE 1: values, states, the world of the layout, and the machine's goal at a place -/
abbrev kV : Type := Int ⊕ (Nat ⊕ Int)
abbrev kS : Type := Nat → Nat → Int
abbrev kL : Type := List (Option kV)
abbrev kR : Type := Unit ⊕ (Bool ⊕ (Option kV ⊕ Nat))
abbrev kG : Type := va_G × (ClassId × ClassId × ClassId) × (Nat → Nat)
abbrev kM : Type := ByteArray × String × Nat × Room × Option FieldType
def kR32 (z : Int) : Prop := -2147483648 ≤ z ∧ z < 2147483648
def kR64 (z : Int) : Prop := -9223372036854775808 ≤ z ∧ z < 9223372036854775808
def kVV : kV → Prop
  | .inl z => kR32 z
  | .inr (.inl _) => True
  | .inr (.inr z) => kR64 z
def kIs64 (o k : Nat) : Bool := match kY[o]? with
  | some (.inl (_, fl)) => (match fl[k]? with
    | some (.inr true) => true
    | _ => false)
  | some (.inr (n, _)) => n == 2
  | none => false
def kVS (σ : kS) : Prop := ∀ o k, kR64 (σ o k) ∧ (kIs64 o k = false → kR32 (σ o k))
def kVL (L : kL) : Prop := ∀ v, some v ∈ L → kVV v
def kcv (g : kG) : kV → Value
  | .inl z => .int (Int32.ofInt z)
  | .inr (.inl o) => .ref (g.2.2 o)
  | .inr (.inr z) => .long (Int64.ofInt z)
def kfv (g : kG) (z : Int) : (Nat ⊕ Bool) → Value
  | .inl o => .ref (g.2.2 o)
  | .inr false => .int (Int32.ofInt z)
  | .inr true => .long (Int64.ofInt z)
def kcell (g : kG) (σ : kS) (i : Nat) : kEn → va_E
  | .inl (ci, fl) => .inr (ci, (List.range fl.length).map (fun k => kfv g (σ i k) (fl.getD k (.inr false))))
  | .inr (0, n) => .inl (g.2.1.1, n, .inl (fun k => Int32.ofInt (σ i k)))
  | .inr (1, n) => .inl (g.2.1.2.1, n, .inl (fun k => Int32.ofInt (σ i k)))
  | .inr (_, n) => .inl (g.2.1.2.2, n, .inr (.inl (fun k => Int64.ofInt (σ i k))))
def ktys (g : kG) : List (ClassId × FieldType) := [(g.2.1.1, .int), (g.2.1.2.1, .boolean), (g.2.1.2.2, .long)]
def kw (g : kG) (σ : kS) : va_W := (List.range kY.length).map (fun i => (g.2.2 i, kcell g σ i (kY.getD i (.inr (0, 0)))))
def kup (σ : kS) (o k : Nat) (v : Int) : kS := fun a b => if a = o ∧ b = k then v else σ a b
def klh (g : kG) (ls : Array Slot) (nL : Nat) (L : kL) : Prop := ls.size = nL ∧ lv_wf ls ∧ ∀ (i : Nat) (v : kV), L[i]? = some (some v) → ls[i]? = some (Slot.val (kcv g v))

theorem k_i32 {z : Int} (h : kR32 z) : (Int32.ofInt z).toInt = z := Int32.toInt_ofInt_of_le (by have := h.1; omega) (by have := h.2; omega)
theorem k_i64 {z : Int} (h : kR64 z) : (Int64.ofInt z).toInt = z := Int64.toInt_ofInt_of_le (by have := h.1; omega) (by have := h.2; omega)
theorem kw_len (g : kG) (σ : kS) : (kw g σ).length = kY.length := by simp [kw]
theorem kw_get {g : kG} {σ : kS} {o : Nat} {e : kEn} (h : kY[o]? = some e) : (kw g σ)[o]? = some (g.2.2 o, kcell g σ o e) := by
  have hlt : o < kY.length := (List.getElem?_eq_some_iff.mp h).1
  simp [kw, List.getElem?_map, List.getElem?_range hlt, List.getD, h]
theorem kw_set {g : kG} {σ σ' : kS} {o : Nat} {e : kEn} (h : kY[o]? = some e) (ho : ∀ a, a ≠ o → σ' a = σ a) : (kw g σ).set o (g.2.2 o, kcell g σ' o e) = kw g σ' := by
  have hlt : o < kY.length := (List.getElem?_eq_some_iff.mp h).1
  have hlt2 : o < (kw g σ).length := by rw [kw_len]; exact hlt
  apply List.ext_getElem?
  intro j
  by_cases hj : o = j
  · subst hj
    rw [List.getElem?_set_self hlt2, kw_get h]
  · rw [List.getElem?_set_ne hj]
    by_cases hl : j < kY.length
    · have he : kY[j]? = some (kY[j]) := List.getElem?_eq_getElem hl
      rw [kw_get he, kw_get he]
      have : σ' j = σ j := ho j (fun q => hj q.symm)
      have hc : ∀ e, kcell g σ' j e = kcell g σ j e := by
        intro e
        unfold kcell
        rw [this]
      rw [hc]
    · rw [List.getElem?_eq_none (by rw [kw_len]; omega), List.getElem?_eq_none (by rw [kw_len]; omega)]
theorem kup_ne {σ : kS} {o k a : Nat} {v : Int} (h : a ≠ o) : kup σ o k v a = σ a := by
  funext b
  simp [kup, h]
theorem kup_vs {σ : kS} {o k : Nat} {v : Int} (h : kVS σ) (hv : kR64 v) (h2 : kIs64 o k = false → kR32 v) : kVS (kup σ o k v) := by
  intro a b
  unfold kup
  by_cases hab : a = o ∧ b = k
  · rw [if_pos hab]
    obtain ⟨rfl, rfl⟩ := hab
    exact ⟨hv, h2⟩
  · rw [if_neg hab]
    exact h a b
theorem k_6432 {z : Int} (h : kR32 z) : kR64 z := ⟨by have := h.1; unfold kR64 at *; omega, by have := h.2; omega⟩

abbrev kX : Type := Program × Launch × Env × State × MethodId × Array Value × List Frame × Method × Code × (State → Prop) × kG × (Nat → Prop) × Heap × Nat × Nat
/-- the machine's goal: at a place, with these locals, this stack, this state -/
def kW (M : kM) (X : kX) (pc : Nat) (L : kL) (st : List kV) (σ : kS) : Prop := match X with
  | (p, l, e, s, m, args, below, meth, c, Q, g, A, H0, cells, slots) =>
    ∀ (H : Heap) (locs : List Loc) (ls : Array Slot), va_P g.1 kcl (kw g σ) H → va_S A H0 H locs → klh g ls M.2.2.1 L →
      W p l e M.2.2.2.1 s m args below meth c H locs cells slots Q (F0 m pc ls (st.map (kcv g)))
/-- private static methods that nest mates call -/
def kNW : List (String × Nat × MethodName × String) := [(RX10, 55, yX11_leaveOut, RX11), (RX1, 25, yX11_leaveOut, RX11), (RX0, 36, yX11_leaveOut, RX11)]
def kNest (U : State) : Prop := ∀ q ∈ kNW, va_Nw (Cond.methodLinkNest q.1 q.2.1 q.2.2.1 q.2.2.2) U
theorem kNest.same {u U : State} (h : u.vm = U.vm) (hN : kNest u) : kNest U := fun q hq => va_Nw.same rfl h (hN q hq)
theorem kNest.warm {s U : State} (h : s.WarmedH U.vm) (hN : kNest s) : kNest U := fun q hq => va_Nw.warmM h (hN q hq)
/-- what a walk stands on -/
def kC (M : kM) (X : kX) : Prop := match X with
  | (p, l, e, s, m, args, below, meth, c, Q, g, A, H0, cells, slots) =>
    p.tables.exec = Jvm.exec ∧ c.code = M.1 ∧ c.maxLocals = M.2.2.1 ∧ s.vm.findClass M.2.1 = some m.cls ∧ (∀ w ∈ kTBL, w.before args s = true) ∧
      va_K g.1 kcl (ktys g) s ∧ (∀ σ, va_D A (kw g σ)) ∧ (∀ q, H0.size ≤ q → A q) ∧ ((cells ≤ M.2.2.2.1.cells ∧ slots ≤ M.2.2.2.1.slots) ∧ kNest s)

section KG
variable {M : kM} {X : kX} {pc : Nat} {L : kL} {st : List kV} {σ : kS}
theorem kg_iconst {n : Int} (C : kC M X) (hd : decode M.1 pc = .ok (.iconst n, 1)) (k : kW M X (pc + 1) L (.inl n :: st) σ) : kW M X pc L st σ := by
  obtain ⟨p, l, e, s, m, args, below, meth, c, Q, g, A, H0, cells, slots⟩ := X
  obtain ⟨hx, hb, hml, hown, hts, hK, hD, hA, hcs⟩ := C
  intro H locs ls hP hS hl
  exact lv_iconst hx hb hd rfl (k H locs ls hP hS hl)
theorem kg_bipush {n : Int} (C : kC M X) (hd : decode M.1 pc = .ok (.bipush n, 2)) (hn : (Int8.ofInt n).toInt32 = Int32.ofInt n) (k : kW M X (pc + 2) L (.inl n :: st) σ) : kW M X pc L st σ := by
  obtain ⟨p, l, e, s, m, args, below, meth, c, Q, g, A, H0, cells, slots⟩ := X
  obtain ⟨hx, hb, hml, hown, hts, hK, hD, hA, hcs⟩ := C
  intro H locs ls hP hS hl
  exact lv_bipush hx hb hd hn (k H locs ls hP hS hl)
theorem kg_sipush {n : Int} (C : kC M X) (hd : decode M.1 pc = .ok (.sipush n, 3)) (hn : (Int16.ofInt n).toInt32 = Int32.ofInt n) (k : kW M X (pc + 3) L (.inl n :: st) σ) : kW M X pc L st σ := by
  obtain ⟨p, l, e, s, m, args, below, meth, c, Q, g, A, H0, cells, slots⟩ := X
  obtain ⟨hx, hb, hml, hown, hts, hK, hD, hA, hcs⟩ := C
  intro H locs ls hP hS hl
  exact lv_sipush hx hb hd hn (k H locs ls hP hS hl)
theorem kg_lconst {n : Fin 2} (C : kC M X) (hd : decode M.1 pc = .ok (.lconst n, 1)) (k : kW M X (pc + 1) L (.inr (.inr ((n : Nat) : Int)) :: st) σ) : kW M X pc L st σ := by
  obtain ⟨p, l, e, s, m, args, below, meth, c, Q, g, A, H0, cells, slots⟩ := X
  obtain ⟨hx, hb, hml, hown, hts, hK, hD, hA, hcs⟩ := C
  intro H locs ls hP hS hl
  exact lv_lconst hx hb hd (v := Int64.ofInt ((n : Nat) : Int)) (by rcases n with ⟨_ | _ | n, h⟩ <;> first | rfl | omega) (k H locs ls hP hS hl)
theorem kg_iload_n {i : Fin 4} {x : Int} (C : kC M X) (hd : decode M.1 pc = .ok (.iload_n i, 1)) (hL : L[(i : Nat)]? = some (some (.inl x))) (k : kW M X (pc + 1) L (.inl x :: st) σ) : kW M X pc L st σ := by
  obtain ⟨p, l, e, s, m, args, below, meth, c, Q, g, A, H0, cells, slots⟩ := X
  obtain ⟨hx, hb, hml, hown, hts, hK, hD, hA, hcs⟩ := C
  intro H locs ls hP hS hl
  exact lv_iload_n hx hb hd rfl (hl.2.2 _ _ hL) (k H locs ls hP hS hl)
theorem kg_iload {i : Nat} {x : Int} (C : kC M X) (hd : decode M.1 pc = .ok (.iload i, 2)) (hL : L[i]? = some (some (.inl x))) (k : kW M X (pc + 2) L (.inl x :: st) σ) : kW M X pc L st σ := by
  obtain ⟨p, l, e, s, m, args, below, meth, c, Q, g, A, H0, cells, slots⟩ := X
  obtain ⟨hx, hb, hml, hown, hts, hK, hD, hA, hcs⟩ := C
  intro H locs ls hP hS hl
  exact lv_iload hx hb hd (hl.2.2 _ _ hL) (k H locs ls hP hS hl)
theorem kg_aload_n {i : Fin 4} {o : Nat} (C : kC M X) (hd : decode M.1 pc = .ok (.aload_n i, 1)) (hL : L[(i : Nat)]? = some (some (.inr (.inl o)))) (k : kW M X (pc + 1) L (.inr (.inl o) :: st) σ) : kW M X pc L st σ := by
  obtain ⟨p, l, e, s, m, args, below, meth, c, Q, g, A, H0, cells, slots⟩ := X
  obtain ⟨hx, hb, hml, hown, hts, hK, hD, hA, hcs⟩ := C
  intro H locs ls hP hS hl
  exact lv_aload_n hx hb hd rfl (hl.2.2 _ _ hL) (k H locs ls hP hS hl)
theorem kg_aload {i : Nat} {o : Nat} (C : kC M X) (hd : decode M.1 pc = .ok (.aload i, 2)) (hL : L[i]? = some (some (.inr (.inl o)))) (k : kW M X (pc + 2) L (.inr (.inl o) :: st) σ) : kW M X pc L st σ := by
  obtain ⟨p, l, e, s, m, args, below, meth, c, Q, g, A, H0, cells, slots⟩ := X
  obtain ⟨hx, hb, hml, hown, hts, hK, hD, hA, hcs⟩ := C
  intro H locs ls hP hS hl
  exact lv_aload hx hb hd (hl.2.2 _ _ hL) (k H locs ls hP hS hl)
theorem kg_lload_n {i : Fin 4} {x : Int} (C : kC M X) (hd : decode M.1 pc = .ok (.lload_n i, 1)) (hL : L[(i : Nat)]? = some (some (.inr (.inr x)))) (k : kW M X (pc + 1) L (.inr (.inr x) :: st) σ) : kW M X pc L st σ := by
  obtain ⟨p, l, e, s, m, args, below, meth, c, Q, g, A, H0, cells, slots⟩ := X
  obtain ⟨hx, hb, hml, hown, hts, hK, hD, hA, hcs⟩ := C
  intro H locs ls hP hS hl
  exact lv_lload_n hx hb hd rfl (hl.2.2 _ _ hL) (k H locs ls hP hS hl)
theorem kg_iadd {x y : Int} (C : kC M X) (hd : decode M.1 pc = .ok (.iadd, 1)) (k : kW M X (pc + 1) L (.inl (x + y) :: st) σ) : kW M X pc L (.inl y :: .inl x :: st) σ := by
  obtain ⟨p, l, e, s, m, args, below, meth, c, Q, g, A, H0, cells, slots⟩ := X
  obtain ⟨hx, hb, hml, hown, hts, hK, hD, hA, hcs⟩ := C
  intro H locs ls hP hS hl
  refine lv_iadd hx hb hd ?_
  rw [← Int32.ofInt_add]
  exact k H locs ls hP hS hl
theorem kg_isub {x y : Int} (C : kC M X) (hd : decode M.1 pc = .ok (.isub, 1)) (k : kW M X (pc + 1) L (.inl (x - y) :: st) σ) : kW M X pc L (.inl y :: .inl x :: st) σ := by
  obtain ⟨p, l, e, s, m, args, below, meth, c, Q, g, A, H0, cells, slots⟩ := X
  obtain ⟨hx, hb, hml, hown, hts, hK, hD, hA, hcs⟩ := C
  intro H locs ls hP hS hl
  refine lv_isub hx hb hd ?_
  rw [← Int32.ofInt_sub]
  exact k H locs ls hP hS hl
theorem kg_imul {x y : Int} (C : kC M X) (hd : decode M.1 pc = .ok (.imul, 1)) (k : kW M X (pc + 1) L (.inl (x * y) :: st) σ) : kW M X pc L (.inl y :: .inl x :: st) σ := by
  obtain ⟨p, l, e, s, m, args, below, meth, c, Q, g, A, H0, cells, slots⟩ := X
  obtain ⟨hx, hb, hml, hown, hts, hK, hD, hA, hcs⟩ := C
  intro H locs ls hP hS hl
  refine lv_imul hx hb hd ?_
  rw [← Int32.ofInt_mul]
  exact k H locs ls hP hS hl
theorem kg_ladd {x y : Int} (C : kC M X) (hd : decode M.1 pc = .ok (.ladd, 1)) (k : kW M X (pc + 1) L (.inr (.inr (x + y)) :: st) σ) : kW M X pc L (.inr (.inr y) :: .inr (.inr x) :: st) σ := by
  obtain ⟨p, l, e, s, m, args, below, meth, c, Q, g, A, H0, cells, slots⟩ := X
  obtain ⟨hx, hb, hml, hown, hts, hK, hD, hA, hcs⟩ := C
  intro H locs ls hP hS hl
  refine lv_ladd hx hb hd ?_
  rw [← Int64.ofInt_add]
  exact k H locs ls hP hS hl
theorem k_i2l {x : Int} (h : kR32 x) : (Int32.ofInt x).toInt64 = Int64.ofInt x := by
  apply Int64.toInt_inj.mp
  rw [Int32.toInt_toInt64, k_i32 h, k_i64 (k_6432 h)]
theorem kg_i2l {x : Int} (C : kC M X) (hd : decode M.1 pc = .ok (.i2l, 1)) (h : kR32 x) (k : kW M X (pc + 1) L (.inr (.inr x) :: st) σ) : kW M X pc L (.inl x :: st) σ := by
  obtain ⟨p, l, e, s, m, args, below, meth, c, Q, g, A, H0, cells, slots⟩ := X
  obtain ⟨hx, hb, hml, hown, hts, hK, hD, hA, hcs⟩ := C
  intro H locs ls hP hS hl
  exact lv_i2l hx hb hd (k_i2l h) (k H locs ls hP hS hl)
theorem k_ne0 {y : Int} (hy : 0 < y) (h : kR32 y) : ¬ Int32.ofInt y = 0 := by
  intro q
  have := congrArg Int32.toInt q
  rw [k_i32 h, Int32.toInt_zero] at this
  omega
theorem k_div {x y : Int} (hx : kR32 x) (hy : kR32 y) (h0 : 0 ≤ x) (h1 : 0 < y) : Int32.ofInt x / Int32.ofInt y = Int32.ofInt (x / y) := by
  have hq : kR32 (x / y) := ⟨by have := Int.ediv_nonneg h0 (Int.le_of_lt h1); omega, by have := Int.ediv_le_self y h0; have := hx.2; omega⟩
  apply Int32.toInt_inj.mp
  rw [Int32.toInt_div_of_ne_right _ _ (by
    intro q
    have := congrArg Int32.toInt q
    rw [k_i32 hy] at this
    have h2 : (-1 : Int32).toInt = -1 := by decide
    rw [h2] at this
    omega), k_i32 hx, k_i32 hy, k_i32 hq, Int.tdiv_eq_ediv_of_nonneg h0]
theorem kg_idiv {x y : Int} (C : kC M X) (hd : decode M.1 pc = .ok (.idiv, 1)) (hx : kR32 x) (hy : kR32 y) (h0 : 0 ≤ x) (h1 : 0 < y) (k : kW M X (pc + 1) L (.inl (x / y) :: st) σ) : kW M X pc L (.inl y :: .inl x :: st) σ := by
  obtain ⟨p, l, e, s, m, args, below, meth, c, Q, g, A, H0, cells, slots⟩ := X
  obtain ⟨hx', hb, hml, hown, hts, hK, hD, hA, hcs⟩ := C
  intro H locs ls hP hS hl
  refine lv_idiv hx' hb hd (k_ne0 h1 hy) ?_
  rw [k_div hx hy h0 h1]
  exact k H locs ls hP hS hl
theorem kg_irem {x y : Int} (C : kC M X) (hd : decode M.1 pc = .ok (.irem, 1)) (hx : kR32 x) (hy : kR32 y) (h0 : 0 ≤ x) (h1 : 0 < y) (k : kW M X (pc + 1) L (.inl (x % y) :: st) σ) : kW M X pc L (.inl y :: .inl x :: st) σ := by
  obtain ⟨p, l, e, s, m, args, below, meth, c, Q, g, A, H0, cells, slots⟩ := X
  obtain ⟨hx', hb, hml, hown, hts, hK, hD, hA, hcs⟩ := C
  intro H locs ls hP hS hl
  refine lv_irem hx' hb hd (k_ne0 h1 hy) ?_
  rw [k_div hx hy h0 h1, ← Int32.ofInt_mul, ← Int32.ofInt_sub]
  have : x - x / y * y = x % y := by rw [Int.emod_def, Int.mul_comm]
  rw [this]
  exact k H locs ls hP hS hl
end KG
