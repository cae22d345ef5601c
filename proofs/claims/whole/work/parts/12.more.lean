/-! RULES 5: Math, lengths, longs compared, switches -/
def kcmp3 (x y : Int) : Int := if y < x then 1 else if x = y then 0 else -1
theorem kcmp3_op (op : Nat) (x y : Int) : kcmp op (kcmp3 x y) 0 = kcmp op x y := by
  have h : (y < x ∧ kcmp3 x y = 1) ∨ (x = y ∧ kcmp3 x y = 0) ∨ (x < y ∧ kcmp3 x y = -1) := by
    unfold kcmp3
    by_cases h1 : y < x
    · left; exact ⟨h1, by rw [if_pos h1]⟩
    · by_cases h2 : x = y
      · right; left; exact ⟨h2, by rw [if_neg h1, if_pos h2]⟩
      · right; right; exact ⟨by omega, by rw [if_neg h1, if_neg h2]⟩
  unfold kcmp
  rcases h with ⟨h, e⟩ | ⟨h, e⟩ | ⟨h, e⟩ <;> rw [e] <;> split <;> apply decide_eq_decide.mpr <;> omega
theorem kcmp3_32 (x y : Int) : kR32 (kcmp3 x y) := by
  unfold kcmp3 kR32
  split
  · omega
  · split <;> omega
theorem kcmp3_lg {x y : Int} (hx : kR64 x) (hy : kR64 y) : lg_cmp (Int64.ofInt x) (Int64.ofInt y) = Int32.ofInt (kcmp3 x y) := by
  unfold lg_cmp kcmp3
  simp only [gt_iff_lt, Int64.lt_iff_toInt_lt, ← Int64.toInt_inj, k_i64 hx, k_i64 hy]
  split
  · rfl
  · split <;> rfl
def eMax (a b : kEx) : kEx := fun L σ => (a L σ).bind fun p => (b L p.2).bind fun q => (kint p.1).bind fun x => (kint q.1).map fun y => (.inl (if x < y then y else x), q.2)
def eMin (a b : kEx) : kEx := fun L σ => (a L σ).bind fun p => (b L p.2).bind fun q => (kint p.1).bind fun x => (kint q.1).map fun y => (.inl (if y < x then y else x), q.2)
def klen (v : kV) : Option Nat := match v with
  | .inr (.inl o) => (match kY[o]? with
    | some (.inr (_, n)) => if n < 2147483648 then some n else none
    | _ => none)
  | _ => none
def eLen (a : kEx) : kEx := fun L σ => (a L σ).bind fun p => (klen p.1).map fun (n : Nat) => (.inl (n : Int), p.2)
section R5
variable {M : kM} {d pc p1 p2 p3 pN pB pC pt pf op : Nat} {a b : kEx}
theorem kg_lcmp {X : kX} {L : kL} {st : List kV} {σ : kS} {x y : Int} (CC : kC M X) (hx : kR64 x) (hy : kR64 y) (hd : decode M.1 pc = .ok (.lcmp, 1)) (kk : kW M X (pc + 1) L (.inl (kcmp3 x y) :: st) σ) : kW M X pc L (.inr (.inr y) :: .inr (.inr x) :: st) σ := by
  obtain ⟨p, l, e, s, m, args, below, meth, c, Q, g, A, H0, cells, slots⟩ := X
  obtain ⟨hxx, hb, hml, hown, hts, hK, hD, hA, hcs⟩ := CC
  intro H locs ls hP hS hll
  refine W.lcmp hxx hb hd ?_
  rw [kcmp3_lg hx hy]
  exact kk H locs ls hP hS hll
theorem kCd_L (ha : kE M d pc p1 a) (hb : kE M (d + 1) p1 p2 b) (hd : decode M.1 p2 = .ok (.lcmp, 1)) (hj : kJ0 M (p2 + 1) pt pf op) : kCd M d pc pt pf (cL op a b) := by
  intro L st σ tv σ' hL hS hst he
  simp only [cL, Option.bind_eq_some_iff, Option.map_eq_some_iff] at he
  obtain ⟨⟨v1, σ1⟩, h1, ⟨v2, σ2⟩, h2, x, hx, y, hy, hq⟩ := he
  cases hq
  have e1 := klong_eq hx
  have e2 := klong_eq hy
  dsimp only at e1 e2 h2
  subst e1; subst e2
  obtain ⟨g1, g2, g3⟩ := ha L st σ _ _ hL hS hst h1
  obtain ⟨g4, g5, g6⟩ := hb L (.inr (.inr x) :: st) _ _ _ hL g2 (by simp; omega) h2
  exact ⟨g5, fun X C k => g3 X C (g6 X C (kg_lcmp C g1 g4 hd (hj X C L st σ2 (kcmp3 x y) (kcmp3_32 x y) (by rw [kcmp3_op]; exact k))))⟩
theorem kE_max {idx : Nat} (ha : kE M d pc p1 a) (hb : kE M (d + 1) p1 p2 b) (hd : decode M.1 p2 = .ok (.invokestatic idx, 3)) (hl : Cond.methodLink M.2.1 idx Lib.Math.max.name ∈ kTBL) (hw : Cond.static Lib.Math.max.name ∈ kTBL ∧ Cond.initialized "java/lang/Math" ∈ kTBL ∧ Cond.code Lib.Math.max.name Lib.Math.max.code 2 (some .int) ∈ kTBL) (hR : 1 ≤ M.2.2.2.1.frames ∧ 21 ≤ M.2.2.2.1.locals) (hdd : d ≤ 4) : kE M d pc (p2 + 3) (eMax a b) := by
  intro L st σ v σ' hL hS hst he
  simp only [eMax, Option.bind_eq_some_iff, Option.map_eq_some_iff] at he
  obtain ⟨⟨v1, σ1⟩, h1, ⟨v2, σ2⟩, h2, x, hx, y, hy, hq⟩ := he
  cases hq
  have e1 := kint_eq hx
  have e2 := kint_eq hy
  dsimp only at e1 e2 h2
  subst e1; subst e2
  obtain ⟨g1, g2, g3⟩ := ha L st σ _ _ hL hS hst h1
  obtain ⟨g4, g5, g6⟩ := hb L (.inl x :: st) _ _ _ hL g2 (by simp; omega) h2
  refine ⟨by show kR32 _; split <;> first | exact g1 | exact g4, g5, fun X C k => g3 X C (g6 X C ?_)⟩
  obtain ⟨p, l, e, s, m, args, below, meth, c, Q, g, A, H0, cells, slots⟩ := X
  obtain ⟨hxx, hb, hml, hown, hts, hK, hD, hA, hcs⟩ := C
  intro H locs ls hP hSS hll
  refine va_mmax hxx hb (by rw [hll.1]; exact hml) hown (hts _ hl) (hts _ hw.1) (hts _ hw.2.1) (hts _ hw.2.2) hR.1 (by have := k_weight (g := g) (show st.length ≤ 4 by omega); omega) hcs.1.1 hcs.1.2 hd ?_
  have := k H locs ls hP hSS hll
  simp only [k_lt g1 g4]
  by_cases h : x < y <;> simpa [h, kcv] using this
theorem kE_min {idx : Nat} (ha : kE M d pc p1 a) (hb : kE M (d + 1) p1 p2 b) (hd : decode M.1 p2 = .ok (.invokestatic idx, 3)) (hl : Cond.methodLink M.2.1 idx Lib.Math.min.name ∈ kTBL) (hw : Cond.static Lib.Math.min.name ∈ kTBL ∧ Cond.initialized "java/lang/Math" ∈ kTBL ∧ Cond.code Lib.Math.min.name Lib.Math.min.code 2 (some .int) ∈ kTBL) (hR : 1 ≤ M.2.2.2.1.frames ∧ 21 ≤ M.2.2.2.1.locals) (hdd : d ≤ 4) : kE M d pc (p2 + 3) (eMin a b) := by
  intro L st σ v σ' hL hS hst he
  simp only [eMin, Option.bind_eq_some_iff, Option.map_eq_some_iff] at he
  obtain ⟨⟨v1, σ1⟩, h1, ⟨v2, σ2⟩, h2, x, hx, y, hy, hq⟩ := he
  cases hq
  have e1 := kint_eq hx
  have e2 := kint_eq hy
  dsimp only at e1 e2 h2
  subst e1; subst e2
  obtain ⟨g1, g2, g3⟩ := ha L st σ _ _ hL hS hst h1
  obtain ⟨g4, g5, g6⟩ := hb L (.inl x :: st) _ _ _ hL g2 (by simp; omega) h2
  refine ⟨by show kR32 _; split <;> first | exact g1 | exact g4, g5, fun X C k => g3 X C (g6 X C ?_)⟩
  obtain ⟨p, l, e, s, m, args, below, meth, c, Q, g, A, H0, cells, slots⟩ := X
  obtain ⟨hxx, hb, hml, hown, hts, hK, hD, hA, hcs⟩ := C
  intro H locs ls hP hSS hll
  refine va_mmin hxx hb (by rw [hll.1]; exact hml) hown (hts _ hl) (hts _ hw.1) (hts _ hw.2.1) (hts _ hw.2.2) hR.1 (by have := k_weight (g := g) (show st.length ≤ 4 by omega); omega) hcs.1.1 hcs.1.2 hd ?_
  have := k H locs ls hP hSS hll
  simp only [k_lt g4 g1]
  by_cases h : y < x <;> simpa [h, kcv] using this
/-- a private static method of the host, called by a nest mate -/
theorem kg_callN {y : MethodName} {cc : ByteArray} {nL idx n : Nat} {ret : Option FieldType} {rm : Room} {F : kFn} {host : String} (hc : kCon y cc nL ret rm F) (hv : kMs y cc nL ret n) (hl : (M.2.1, idx, y, host) ∈ kNW)
    (hR : rm.cells = 0 ∧ rm.slots = 0 ∧ rm.frames + 1 ≤ M.2.2.2.1.frames ∧ 8 + (nL + 11) + rm.locals ≤ M.2.2.2.1.locals) (hd : decode M.1 pc = .ok (.invokestatic idx, 3))
    {L : kL} {st : List kV} {σ σ' : kS} {vs : List kV} {r : Option kV} (hst : st.length ≤ 4) (hvs : vs.length = n) (hvv : ∀ v ∈ vs, kVV v) (hS : kVS σ) (hF : F vs σ = some (r, σ')) :
    (∀ v, r = some v → kVV v) ∧ kVS σ' ∧ (∀ X, kC M X → kW M X (pc + 3) L (r.toList ++ st) σ' → kW M X pc L (vs.reverse ++ st) σ) := by
  have h0 := hc vs σ r σ' hS hvv hF
  refine ⟨h0.1, h0.2.1, fun X CC kk => ?_⟩
  obtain ⟨p, l, e, s, m, args, below, meth, c, Q, g, A, H0, cells, slots⟩ := X
  obtain ⟨hxx, hb, hml, hown, hts, hK, hD, hA, hcs⟩ := CC
  intro H locs ls hP hSS hll
  have hM := h0.2.2 l g H.size
  obtain ⟨hv1, hv2, hv4, hv6, hv7⟩ := hv
  have hfree : ∀ q, va_A (kw g σ) H.size q → A q := by
    intro q hq
    rcases hq with ⟨k, e, h⟩ | h
    · exact (hD σ).2 k (q, e) h
    · exact hA q (Nat.le_trans hSS.1 h)
  have hstk : ((vs.reverse ++ st : List kV).map (kcv g)) = (vs.map (kcv g)).reverse ++ st.map (kcv g) := by
    simp
  have hnw : va_Nw (.methodLinkNest M.2.1 idx y host) s := hcs.2 _ hl
  have hcn : va_CN M.2.2.2.1 s args M.2.1 idx y host cc nL ret (.code y cc nL ret :: kTBL) rm 0 0 n := va_cnB (ws' := kTBL) n hts (kgood_in hv1) rfl hR.1 hR.2.1 hnw (hts _ hv4) ⟨hv6.1, hv6.2, hv7⟩ ⟨hR.2.2.1, hR.2.2.2⟩
  refine k_after (r := r) (σ' := σ') (g := g) (σ := σ) (a := (vs.map (kcv g)).toArray) (rest := st.map (kcv g)) ?_ hSS hfree ?_
  · refine va_runSN (As := vs.map (kcv g)) (rest := st.map (kcv g)) (own := M.2.1) (host := host) (Ts := kTBL) (n := n) (index := idx) ⟨hxx, hb, hml, hown, hts⟩ hM ⟨hcn, hts _ hv2, trivial⟩ ?_ rfl (by simp [hvs]) hll.1 hstk (by
      have := k_weight (g := g) hst
      show 2 * 0 + _ ≤ 8
      omega) hd ⟨by have := hcs.1.1; omega, by have := hcs.1.2; omega⟩
    refine ⟨fun a U g' mk q => ?_, fun U hU hW => ⟨rfl, by rw [hU], by rw [hU]; exact hP, va_K.moved hW.alike hK, (hD σ).weaken (fun _ _ _ _ => trivial), hcs.2.warm hW⟩⟩
    obtain ⟨q0, q1, qP, qK, qD, qN⟩ := q
    exact ⟨q0, q1, qP, va_K.moved (u := U) (U := U.calling g' mk a) (Vm.Alike.refl U.vm) qK, qD, qN.same (u := U) (U := U.calling g' mk a) rfl⟩
  · intro H1 locs1 hP1 hS1
    have := kk H1 locs1 ls hP1 hS1 hll
    cases r with
    | none => exact this
    | some v => exact this
theorem kE_callN {es : kAx} {y : MethodName} {cc : ByteArray} {nL idx n : Nat} {rt : FieldType} {rm : Room} {F : kFn} {host : String} (hes : kEs M d n pc p1 es) (hd : decode M.1 p1 = .ok (.invokestatic idx, 3)) (hc : kCon y cc nL (some rt) rm F) (hv : kMs y cc nL (some rt) n) (hl : (M.2.1, idx, y, host) ∈ kNW)
    (hR : rm.cells = 0 ∧ rm.slots = 0 ∧ rm.frames + 1 ≤ M.2.2.2.1.frames ∧ 8 + (nL + 11) + rm.locals ≤ M.2.2.2.1.locals) (hdd : d ≤ 4) : kE M d pc (p1 + 3) (eCallS F es) := by
  intro L st σ v σ' hL hS hst he
  simp only [eCallS, Option.bind_eq_some_iff, Option.map_eq_some_iff] at he
  obtain ⟨⟨vs, σ1⟩, h1, ⟨r, σ2⟩, h3, w, hw, hq⟩ := he
  cases hq
  dsimp only at hw
  subst hw
  obtain ⟨g1, g2, g3, g4⟩ := hes L st σ _ _ hL hS hst h1
  obtain ⟨g5, g6, g7⟩ := kg_callN hc hv hl hR hd (L := L) (st := st) (by omega) g1 g2 g3 h3
  exact ⟨g5 _ rfl, g6, fun X C k => g4 X C (g7 X C k)⟩
theorem kE_alen (ha : kE M d pc p1 a) (hd : decode M.1 p1 = .ok (.arraylength, 1)) : kE M d pc (p1 + 1) (eLen a) := by
  intro L st σ v σ' hL hS hst he
  simp only [eLen, Option.bind_eq_some_iff, Option.map_eq_some_iff] at he
  obtain ⟨⟨v1, σ1⟩, h1, n, hn, hq⟩ := he
  cases hq
  obtain ⟨g1, g2, g3⟩ := ha L st σ _ _ hL hS hst h1
  unfold klen at hn
  split at hn
  · rename_i o hvo
    dsimp only at hvo
    subst hvo
    split at hn
    · rename_i kind n' he
      split at hn
      · rename_i hlt
        cases hn
        refine ⟨⟨by omega, by omega⟩, g2, fun X C k => g3 X C ?_⟩
        obtain ⟨p, l, e, s, m, args, below, meth, c, Q, g, A, H0, cells, slots⟩ := X
        obtain ⟨hxx, hb, hml, hown, hts, hK, hD, hA, hcs⟩ := C
        intro H locs ls hP hSS hll
        have key := k H locs ls hP hSS hll
        match kind, he with
        | 0, he => exact va_alen (v := Int32.ofInt (n : Int)) hxx hb hK hP o 0 (kw_get (g := g) (σ := σ1) he) rfl rfl hd key
        | 1, he => exact va_alen (v := Int32.ofInt (n : Int)) hxx hb hK hP o 1 (kw_get (g := g) (σ := σ1) he) rfl rfl hd key
        | kind + 2, he => exact va_alen (v := Int32.ofInt (n : Int)) hxx hb hK hP o 2 (kw_get (g := g) (σ := σ1) he) rfl rfl hd key
      · cases hn
    · cases hn
  · cases hn
theorem kSt_tsw {e : kEx} {f : Int → kSx} {dflt lo hi : Int} {offs : Array Int} {len : Nat} (he : kE M 0 pc p1 e) (hd : decode M.1 p1 = .ok (.tableswitch dflt lo hi offs, len))
    (h : ∀ z : Int, ∃ tgt : Nat, (((z < lo ∨ hi < z) ∧ (p1 : Int) + dflt = (tgt : Int)) ∨ (¬ z < lo ∧ ¬ hi < z ∧ ∃ off, offs[(z - lo).toNat]? = some off ∧ (p1 : Int) + off = (tgt : Int))) ∧ kSt M tgt pN pN pC (f z)) : kSt M pc pN pB pC (sSwitch e f) := by
  intro L σ r L' σ' hL hS hq
  simp only [sSwitch, Option.bind_eq_some_iff, Option.map_eq_some_iff] at hq
  obtain ⟨⟨v, σ1⟩, q1, z, q2, ⟨r1, L1, σ2⟩, q3, q4⟩ := hq
  have e1 := kint_eq q2
  dsimp only at e1 q3
  subst e1
  obtain ⟨g1, g2, g3⟩ := he L [] σ _ _ hL hS (Nat.zero_le _) q1
  obtain ⟨tgt, ht, hst⟩ := h z
  obtain ⟨g4, g5, g6, g7⟩ := hst L σ1 _ _ _ hL g2 q3
  have jump : ∀ X, kC M X → kW M X tgt L [] σ1 → kW M X pc L [] σ := by
    intro X C k
    refine g3 X C ?_
    obtain ⟨p, l, e, s, m, args, below, meth, c, Q, g, A, H0, cells, slots⟩ := X
    obtain ⟨hxx, hb, hml, hown, hts, hK, hD, hA, hcs⟩ := C
    intro H locs ls hP hSS hll
    have key := k H locs ls hP hSS hll
    have hz : (Int32.ofInt z).toInt = z := k_i32 g1
    rcases ht with ⟨h1, h2⟩ | ⟨h1, h2, off, h3, h4⟩
    · exact lv_tableOut hxx hb hd (by rw [hz]; exact h1) h2 key
    · exact lv_tableIn hxx hb hd (by rw [hz]; exact h1) (by rw [hz]; exact h2) (by rw [hz]; exact h3) h4 key
  rcases r1 with u | ⟨_ | _⟩ | v | t <;> dsimp only at q4 <;> cases q4
  · exact ⟨g4, g5, trivial, fun X C k => jump X C (g7 X C k)⟩
  · exact ⟨g4, g5, trivial, fun X C k => jump X C (g7 X C k)⟩
  · exact ⟨g4, g5, trivial, fun X C k => jump X C (g7 X C k)⟩
  · exact ⟨g4, g5, g6, fun X C k => jump X C (g7 X C k)⟩
  · exact ⟨g4, g5, g6, fun X C k => jump X C (g7 X C k)⟩
end R5
theorem k_nI {x : Int} (h0 : 0 ≤ x) (h : kR32 x) : Int32.ofInt x = nI x.toNat := by
  apply Int32.toInt_inj.mp
  rw [k_i32 h, nI_toInt (by have := h.2; omega)]
  omega
theorem k_and1 {n : Nat} (h : n < 2 ^ 31) : nI n &&& nI 1 = nI (n % 2) := by
  apply Int32.toBitVec_inj.mp
  apply BitVec.eq_of_toNat_eq
  rw [Int32.toBitVec_and, BitVec.toNat_and]
  have e : ∀ k : Nat, k < 2 ^ 31 → (nI k).toBitVec.toNat = k := by
    intro k hk
    show (BitVec.ofNat 32 k).toNat = k
    rw [BitVec.toNat_ofNat]
    exact Nat.mod_eq_of_lt (by omega)
  rw [e n h, e 1 (by decide), e (n % 2) (by omega), Nat.and_one_is_mod]
theorem kg_iand1 {M : kM} {X : kX} {pc : Nat} {L : kL} {st : List kV} {σ : kS} {x : Int} (CC : kC M X) (hd : decode M.1 pc = .ok (.iand, 1)) (hx : kR32 x) (h0 : 0 ≤ x) (kk : kW M X (pc + 1) L (.inl (x % 2) :: st) σ) : kW M X pc L (.inl 1 :: .inl x :: st) σ := by
  obtain ⟨p, l, e, s, m, args, below, meth, c, Q, g, A, H0, cells, slots⟩ := X
  obtain ⟨hxx, hb, hml, hown, hts, hK, hD, hA, hcs⟩ := CC
  intro H locs ls hP hS hll
  refine lv_iand hxx hb hd ?_
  have e1 : Int32.ofInt x &&& Int32.ofInt 1 = Int32.ofInt (x % 2) := by
    rw [k_nI h0 hx, k_nI (x := 1) (by decide) ⟨by decide, by decide⟩, k_nI (x := x % 2) (by omega) ⟨by omega, by omega⟩]
    have := k_and1 (n := x.toNat) (by have := hx.2; omega)
    rw [show (1 : Int).toNat = 1 from rfl, this, show (x % 2).toNat = x.toNat % 2 by omega]
  rw [e1]
  exact kk H locs ls hP hS hll
theorem k_xor {x y : Int} (hx : x = 0 ∨ x = 1) (hy : y = 0 ∨ y = 1) : Int32.ofInt x ^^^ Int32.ofInt y = Int32.ofInt (if x = y then 0 else 1) := by
  rcases hx with rfl | rfl <;> rcases hy with rfl | rfl <;> rfl
theorem kg_ixor {M : kM} {X : kX} {pc : Nat} {L : kL} {st : List kV} {σ : kS} {x y : Int} (CC : kC M X) (hd : decode M.1 pc = .ok (.ixor, 1)) (hx : x = 0 ∨ x = 1) (hy : y = 0 ∨ y = 1) (kk : kW M X (pc + 1) L (.inl (if x = y then 0 else 1) :: st) σ) : kW M X pc L (.inl y :: .inl x :: st) σ := by
  obtain ⟨p, l, e, s, m, args, below, meth, c, Q, g, A, H0, cells, slots⟩ := X
  obtain ⟨hxx, hb, hml, hown, hts, hK, hD, hA, hcs⟩ := CC
  intro H locs ls hP hS hll
  refine lv_ixor hxx hb hd ?_
  rw [k_xor hx hy]
  exact kk H locs ls hP hS hll
theorem k_sh : ∀ k, k < 32 → ((Int32.ofInt ((k : Nat) : Int) &&& 31).toBitVec.smod 32).toNat = k := by decide +kernel
theorem kg_ishr {M : kM} {X : kX} {pc : Nat} {L : kL} {st : List kV} {σ : kS} {x y : Int} (CC : kC M X) (hd : decode M.1 pc = .ok (.ishr, 1)) (hx : kR32 x) (h0 : 0 ≤ x) (hy : 0 ≤ y) (hy2 : y < 32) (kk : kW M X (pc + 1) L (.inl (x / (2 ^ y.toNat : Nat)) :: st) σ) : kW M X pc L (.inl y :: .inl x :: st) σ := by
  obtain ⟨p, l, e, s, m, args, below, meth, c, Q, g, A, H0, cells, slots⟩ := X
  obtain ⟨hxx, hb, hml, hown, hts, hK, hD, hA, hcs⟩ := CC
  intro H locs ls hP hS hll
  refine lv_ishr hxx hb hd ?_
  have e1 : Int32.ofInt x >>> (Int32.ofInt y &&& 31) = Int32.ofInt (x / (2 ^ y.toNat : Nat)) := by
    generalize hp : (2 ^ y.toNat : Nat) = pw
    have hq : x / (pw : Int) = ((x.toNat / pw : Nat) : Int) := by
      conv => lhs; rw [show x = (x.toNat : Int) by omega]
      rfl
    have hle : x.toNat / pw ≤ x.toNat := Nat.div_le_self _ _
    generalize hk : x.toNat / pw = kq at hq hle
    have hx2 := hx.2
    have hkq : ((kq : Nat) : Int).toNat = kq := rfl
    rw [k_nI h0 hx, hq, k_nI (x := (kq : Int)) (by omega) ⟨by omega, by omega⟩, hkq, ← hk, ← hp]
    exact pk_shrN (by omega) _ y.toNat (by have := k_sh y.toNat (by omega); rwa [show ((y.toNat : Nat) : Int) = y by omega] at this)
  rw [e1]
  exact kk H locs ls hP hS hll
theorem kOp_and {M : kM} {pc : Nat} (hd : decode M.1 pc = .ok (.iand, 1)) : kOp M pc kAnd := fun L st σ x y z hx hy h => by
  unfold kAnd at h
  split at h
  · rename_i q
    obtain ⟨q1, rfl⟩ := q
    cases h
    exact ⟨⟨by omega, by omega⟩, fun X C k => kg_iand1 C hd hx q1 k⟩
  · cases h
theorem kOp_xor {M : kM} {pc : Nat} (hd : decode M.1 pc = .ok (.ixor, 1)) : kOp M pc kXor := fun L st σ x y z hx hy h => by
  unfold kXor at h
  split at h
  · rename_i q
    cases h
    refine ⟨?_, fun X C k => kg_ixor C hd q.1 q.2 k⟩
    unfold kR32
    split <;> omega
  · cases h
theorem kOp_shr {M : kM} {pc : Nat} (hd : decode M.1 pc = .ok (.ishr, 1)) : kOp M pc kShr := fun L st σ x y z hx hy h => by
  unfold kShr at h
  split at h
  · rename_i q
    cases h
    refine ⟨⟨?_, ?_⟩, fun X C k => kg_ishr C hd hx q.1 q.2.1 q.2.2 k⟩
    · have := Int.ediv_nonneg q.1 (Int.natCast_nonneg (2 ^ y.toNat)); omega
    · have := Int.ediv_le_self ((2 ^ y.toNat : Nat) : Int) q.1; have := hx.2; omega
  · cases h
section Lits
variable {M : kM} {d pc : Nat}
theorem kE_aload_0 (hd : decode M.1 pc = .ok (.aload_n 0, 1)) : kE M d pc (pc + 1) (eR 0) := kE_aload_n hd
theorem kE_aload_1 (hd : decode M.1 pc = .ok (.aload_n 1, 1)) : kE M d pc (pc + 1) (eR 1) := kE_aload_n hd
theorem kE_aload_2 (hd : decode M.1 pc = .ok (.aload_n 2, 1)) : kE M d pc (pc + 1) (eR 2) := kE_aload_n hd
theorem kE_aload_3 (hd : decode M.1 pc = .ok (.aload_n 3, 1)) : kE M d pc (pc + 1) (eR 3) := kE_aload_n hd
theorem kE_iload_0 (hd : decode M.1 pc = .ok (.iload_n 0, 1)) : kE M d pc (pc + 1) (eI 0) := kE_iload_n hd
theorem kE_iload_1 (hd : decode M.1 pc = .ok (.iload_n 1, 1)) : kE M d pc (pc + 1) (eI 1) := kE_iload_n hd
theorem kE_iload_2 (hd : decode M.1 pc = .ok (.iload_n 2, 1)) : kE M d pc (pc + 1) (eI 2) := kE_iload_n hd
theorem kE_iload_3 (hd : decode M.1 pc = .ok (.iload_n 3, 1)) : kE M d pc (pc + 1) (eI 3) := kE_iload_n hd
theorem kE_lload_0 (hd : decode M.1 pc = .ok (.lload_n 0, 1)) : kE M d pc (pc + 1) (eJ 0) := kE_lload_n hd
theorem kE_lload_1 (hd : decode M.1 pc = .ok (.lload_n 1, 1)) : kE M d pc (pc + 1) (eJ 1) := kE_lload_n hd
theorem kE_lload_2 (hd : decode M.1 pc = .ok (.lload_n 2, 1)) : kE M d pc (pc + 1) (eJ 2) := kE_lload_n hd
theorem kE_lload_3 (hd : decode M.1 pc = .ok (.lload_n 3, 1)) : kE M d pc (pc + 1) (eJ 3) := kE_lload_n hd
theorem kE_ic_m1 (hd : decode M.1 pc = .ok (.iconst (-1), 1)) : kE M d pc (pc + 1) (eK (-1)) := kE_iconst hd ⟨by decide, by decide⟩
theorem kE_ic_0 (hd : decode M.1 pc = .ok (.iconst 0, 1)) : kE M d pc (pc + 1) (eK 0) := kE_iconst hd ⟨by decide, by decide⟩
theorem kE_ic_1 (hd : decode M.1 pc = .ok (.iconst 1, 1)) : kE M d pc (pc + 1) (eK 1) := kE_iconst hd ⟨by decide, by decide⟩
theorem kE_ic_2 (hd : decode M.1 pc = .ok (.iconst 2, 1)) : kE M d pc (pc + 1) (eK 2) := kE_iconst hd ⟨by decide, by decide⟩
theorem kE_ic_3 (hd : decode M.1 pc = .ok (.iconst 3, 1)) : kE M d pc (pc + 1) (eK 3) := kE_iconst hd ⟨by decide, by decide⟩
theorem kE_ic_4 (hd : decode M.1 pc = .ok (.iconst 4, 1)) : kE M d pc (pc + 1) (eK 4) := kE_iconst hd ⟨by decide, by decide⟩
theorem kE_ic_5 (hd : decode M.1 pc = .ok (.iconst 5, 1)) : kE M d pc (pc + 1) (eK 5) := kE_iconst hd ⟨by decide, by decide⟩
theorem kE_lc_0 (hd : decode M.1 pc = .ok (.lconst 0, 1)) : kE M d pc (pc + 1) (eKL 0) := kE_lconst hd
theorem kE_lc_1 (hd : decode M.1 pc = .ok (.lconst 1, 1)) : kE M d pc (pc + 1) (eKL 1) := kE_lconst hd
theorem kSet_istore_0 (hd : decode M.1 pc = .ok (.istore_n 0, 1)) (hi : 0 < M.2.2.1) : kSet M pc (pc + 1) 0 0 := kSet_istore_n hd hi
theorem kSet_istore_1 (hd : decode M.1 pc = .ok (.istore_n 1, 1)) (hi : 1 < M.2.2.1) : kSet M pc (pc + 1) 1 0 := kSet_istore_n hd hi
theorem kSet_istore_2 (hd : decode M.1 pc = .ok (.istore_n 2, 1)) (hi : 2 < M.2.2.1) : kSet M pc (pc + 1) 2 0 := kSet_istore_n hd hi
theorem kSet_istore_3 (hd : decode M.1 pc = .ok (.istore_n 3, 1)) (hi : 3 < M.2.2.1) : kSet M pc (pc + 1) 3 0 := kSet_istore_n hd hi
theorem kSet_astore_1 (hd : decode M.1 pc = .ok (.astore_n 1, 1)) (hi : 1 < M.2.2.1) : kSet M pc (pc + 1) 1 1 := kSet_astore_n hd hi
theorem kSet_astore_2 (hd : decode M.1 pc = .ok (.astore_n 2, 1)) (hi : 2 < M.2.2.1) : kSet M pc (pc + 1) 2 1 := kSet_astore_n hd hi
theorem kSet_astore_3 (hd : decode M.1 pc = .ok (.astore_n 3, 1)) (hi : 3 < M.2.2.1) : kSet M pc (pc + 1) 3 1 := kSet_astore_n hd hi
theorem kSet_lstore_1 (hd : decode M.1 pc = .ok (.lstore_n 1, 1)) (hi : 1 + 1 < M.2.2.1) : kSet M pc (pc + 1) 1 2 := kSet_lstore_n hd hi
theorem kSet_lstore_2 (hd : decode M.1 pc = .ok (.lstore_n 2, 1)) (hi : 2 + 1 < M.2.2.1) : kSet M pc (pc + 1) 2 2 := kSet_lstore_n hd hi
theorem kSet_lstore_3 (hd : decode M.1 pc = .ok (.lstore_n 3, 1)) (hi : 3 + 1 < M.2.2.1) : kSet M pc (pc + 1) 3 2 := kSet_lstore_n hd hi
end Lits
