/-! THE LAW 1: the script, switches, the wrappers' calls -/
/-- what the law's walk stands on, beside kC: the script b of L ints xs -/
def kLC (X : kX) (b L : Nat) (xs : Nat → Int32) : Prop := match X with
  | (_, _, _, s, _, _, _, _, _, _, g, A, H0, _, _) => va_X b L xs s H0 ∧ b < H0.size ∧ ¬ A b ∧ g.2.2 111 = b ∧ L < 2147483648
theorem kLC.up {X : kX} {b L : Nat} {xs : Nat → Int32} (h : kLC X b L xs) : kLC (kXp X) b L xs := by
  obtain ⟨p, l, e, s, m, args, below, meth, c, Q, g, A, H0, cells, slots⟩ := X
  exact h
theorem kg_iand31 {M : kM} {X : kX} {pc : Nat} {Lc : kL} {st : List kV} {σ : kS} {x : Int} (CC : kC M X) (hd : decode M.1 pc = .ok (.iand, 1)) (kk : ∀ c : Nat, c < 32 → kW M X (pc + 1) Lc (.inl (c : Int) :: st) σ) : kW M X pc Lc (.inl 31 :: .inl x :: st) σ := by
  obtain ⟨p, l, e, s, m, args, below, meth, c, Q, g, A, H0, cells, slots⟩ := X
  obtain ⟨hx, hb, hml, hown, hts, hK, hD, hA, hcs⟩ := CC
  intro H locs ls hP hS hl
  refine lv_iand hx hb hd ?_
  have h1 : ∃ c : Nat, c < 32 ∧ Int32.ofInt x &&& Int32.ofInt 31 = Int32.ofInt ((c : Nat) : Int) := by
    refine ⟨(Int32.ofInt x &&& Int32.ofInt 31).toBitVec.toNat, ?_, ?_⟩
    · rw [Int32.toBitVec_and, BitVec.toNat_and]
      exact Nat.lt_of_le_of_lt Nat.and_le_right (by decide)
    · apply Int32.toBitVec.inj
      rw [Int32.toBitVec_ofInt, BitVec.ofInt_natCast, BitVec.ofNat_toNat, BitVec.setWidth_eq]
  obtain ⟨c1, h2, h3⟩ := h1
  rw [h3]
  exact kk c1 h2 H locs ls hP hS hl
section KL
variable {M : kM} {X : kX} {pc : Nat} {Lc : kL} {st : List kV} {σ : kS} {b L : Nat} {xs : Nat → Int32}
theorem kg_slen (CC : kC M X) (LC : kLC X b L xs) (hd : decode M.1 pc = .ok (.arraylength, 1)) (kk : kW M X (pc + 1) Lc (.inl (L : Int) :: st) σ) : kW M X pc Lc (.inr (.inl 111) :: st) σ := by
  obtain ⟨p, l, e, s, m, args, below, meth, c, Q, g, A, H0, cells, slots⟩ := X
  obtain ⟨hx, hb, hml, hown, hts, hK, hD, hA, hcs⟩ := CC
  obtain ⟨hX, hbl, hbA, hg, hL⟩ := LC
  intro H locs ls hP hS hl
  show W p l e M.2.2.2.1 s m args below meth c H locs cells slots Q (F0 m pc ls (.ref (g.2.2 111) :: st.map (kcv g)))
  rw [hg]
  exact va_slen hx hb hX hbl hbA hS hd (kk H locs ls hP hS hl)
theorem kg_sld {n : Nat} {i : Int} (CC : kC M X) (LC : kLC X b L xs) (hi : i = (n : Int)) (hn : n < L) (hd : decode M.1 pc = .ok (.iaload, 1)) (kk : kW M X (pc + 1) Lc (.inl (xs n).toInt :: st) σ) : kW M X pc Lc (.inl i :: .inr (.inl 111) :: st) σ := by
  obtain ⟨p, l, e, s, m, args, below, meth, c, Q, g, A, H0, cells, slots⟩ := X
  obtain ⟨hx, hb, hml, hown, hts, hK, hD, hA, hcs⟩ := CC
  obtain ⟨hX, hbl, hbA, hg, hL⟩ := LC
  subst hi
  intro H locs ls hP hS hl
  show W p l e M.2.2.2.1 s m args below meth c H locs cells slots Q (F0 m pc ls (.int (nI n) :: .ref (g.2.2 111) :: st.map (kcv g)))
  rw [hg]
  refine va_sld hx hb hX hbl hbA hS (vp_in_nI hn hL) hd ?_
  rw [nI_clamp (Nat.lt_trans hn hL)]
  have h2 := kk H locs ls hP hS hl
  have e1 : kcv g (.inl (xs n).toInt) = .int (xs n) := by
    show Value.int (Int32.ofInt (xs n).toInt) = _
    rw [Int32.ofInt_toInt]
  simp only [List.map_cons, e1] at h2
  exact h2
/-- script[i + j]: aload_0; iload 4; iconst j; iadd; iaload -/
theorem kg_scr {n j : Nat} {v1 v2 v3 : Option kV} {t : kL} (CC : kC M X) (LC : kLC X b L xs) (hj : n + j < L) (d0 : decode M.1 pc = .ok (.aload_n 0, 1)) (d1 : decode M.1 (pc + 1) = .ok (.iload 4, 2)) (d2 : decode M.1 (pc + 1 + 2) = .ok (.iconst (j : Int), 1)) (d3 : decode M.1 (pc + 1 + 2 + 1) = .ok (.iadd, 1)) (d4 : decode M.1 (pc + 1 + 2 + 1 + 1) = .ok (.iaload, 1))
    (kk : kW M X (pc + 1 + 2 + 1 + 1 + 1) (some (.inr (.inl 111)) :: v1 :: v2 :: v3 :: some (.inl (n : Int)) :: t) (.inl (xs (n + j)).toInt :: st) σ) : kW M X pc (some (.inr (.inl 111)) :: v1 :: v2 :: v3 :: some (.inl (n : Int)) :: t) st σ :=
  kg_aload_n CC d0 rfl (kg_iload CC d1 rfl (kg_iconst CC d2 (kg_iadd CC d3 (kg_sld (n := n + j) CC LC (by omega) hj d4 kk))))
theorem kg_tswIn {dflt lo hi off z : Int} {offs : Array Int} {len tgt : Nat} (CC : kC M X) (hd : decode M.1 pc = .ok (.tableswitch dflt lo hi offs, len)) (hz : kR32 z) (h1 : lo ≤ z) (h2 : z ≤ hi) (ho : offs[(z - lo).toNat]? = some off) (ht : (pc : Int) + off = (tgt : Int)) (kk : kW M X tgt Lc st σ) : kW M X pc Lc (.inl z :: st) σ := by
  obtain ⟨p, l, e, s, m, args, below, meth, c, Q, g, A, H0, cells, slots⟩ := X
  obtain ⟨hx, hb, hml, hown, hts, hK, hD, hA, hcs⟩ := CC
  intro H locs ls hP hS hl
  have e1 := k_i32 hz
  exact lv_tableIn (x := Int32.ofInt z) hx hb hd (by rw [e1]; omega) (by rw [e1]; omega) (by rw [e1]; exact ho) ht (kk H locs ls hP hS hl)
theorem kg_tswOut {dflt lo hi z : Int} {offs : Array Int} {len tgt : Nat} (CC : kC M X) (hd : decode M.1 pc = .ok (.tableswitch dflt lo hi offs, len)) (hz : kR32 z) (h1 : z < lo ∨ hi < z) (ht : (pc : Int) + dflt = (tgt : Int)) (kk : kW M X tgt Lc st σ) : kW M X pc Lc (.inl z :: st) σ := by
  obtain ⟨p, l, e, s, m, args, below, meth, c, Q, g, A, H0, cells, slots⟩ := X
  obtain ⟨hx, hb, hml, hown, hts, hK, hD, hA, hcs⟩ := CC
  intro H locs ls hP hS hl
  have e1 := k_i32 hz
  exact lv_tableOut (x := Int32.ofInt z) hx hb hd (by rw [e1]; exact h1) ht (kk H locs ls hP hS hl)
theorem kW_up (kk : kW M (kXp X) pc Lc st σ) : kW M X pc Lc st σ := by
  obtain ⟨p, l, e, s, m, args, below, meth, c, Q, g, A, H0, cells, slots⟩ := X
  intro H locs ls hP hS hl
  exact W.widen (Nat.le_succ _) (Nat.le_add_right _ _) (kk H locs ls hP hS hl)
end KL
theorem kgood_inW {y : MethodName} {cc : ByteArray} {nL : Nat} {ret : Option FieldType} {hh : List (Nat × Nat × Nat × Nat)} (h : Cond.codeWith y cc nL ret hh ∈ kTBL) : GoodIn kTBL (.codeWith y cc nL ret hh :: kTBL) := by
  intro w hw
  rcases List.mem_cons.mp hw with rfl | hw
  · exact ⟨h, good_of_word (kTBL_good h)⟩
  · exact ⟨hw, good_of_word (kTBL_good hw)⟩
/-- what the tables say of a wrapper -/
def kMw (y : MethodName) (cc : ByteArray) (nL : Nat) (hh : List (Nat × Nat × Nat × Nat)) (n : Nat) : Prop := Cond.codeWith y cc nL (some .int) hh ∈ kTBL ∧ Cond.static y ∈ kTBL ∧ Cond.initialized y.cls ∈ kTBL ∧ (y.cls ≠ "java/lang/invoke/MethodHandle" ∧ y.cls ≠ "java/lang/invoke/VarHandle") ∧ (parseMethodDescriptor y.desc).map (fun d => d.parameters.length) = some n
theorem kg_callW {M : kM} {y : MethodName} {cc : ByteArray} {nL n idx pc : Nat} {hh : List (Nat × Nat × Nat × Nat)} {rm : Room} {body : kSx} {chk : Option kV → Bool} {site : Nat → Option (String × Int)} (hc : kConW y cc nL hh rm n body chk site) (hw : kMw y cc nL hh (n + 2)) (hl : Cond.methodLink M.2.1 idx y ∈ kTBL)
    (hR : rm.cells = 1 ∧ rm.slots = 6 ∧ rm.frames + 1 ≤ M.2.2.2.1.frames ∧ 8 + (nL + 11) + rm.locals ≤ M.2.2.2.1.locals) (hd : decode M.1 pc = .ok (.invokestatic idx, 3))
    {L : kL} {σ σ1 : kS} {ys : List Int} {k : Int} (hS : kVS σ) (hys : ∀ x ∈ ys, kR32 x) (hlen : ys.length = n) (hF : fW body chk site (.inr (.inl 0) :: ys.map Sum.inl) σ = some (k, σ1)) :
    kR32 k ∧ kVS σ1 ∧ ∀ X, kCX M X → kXc X + 1 ≤ M.2.2.2.1.cells → kXs X + 6 ≤ M.2.2.2.1.slots → kW M (kXp X) (pc + 3) L [.inl k] σ1 → kW M X pc L (kArgs ys).reverse σ := by
  obtain ⟨g1, g2, g3⟩ := hc ys σ k σ1 hS hys hlen hF
  refine ⟨g1, g2, fun X CC hc1 hs1 kk => ?_⟩
  obtain ⟨p, l, e, s, m, args, below, meth, c, Q, g, A, H0, cells, slots⟩ := X
  obtain ⟨⟨hxx, hb, hml, hown, hts, hK, hD, hA, hcs⟩, hlf, hXt⟩ := CC
  intro H locs ls hP hSS hll
  have hM := g3 l hlf g H.size
  obtain ⟨hv1, hv2, hv4, hv6, hv7⟩ := hw
  have hfree : ∀ q, va_A (kw g σ) H.size q → A q := by
    intro q hq
    rcases hq with ⟨k, e, h⟩ | h
    · exact (hD σ).2 k (q, e) h
    · exact hA q (Nat.le_trans hSS.1 h)
  have hX2 : kXt (va_A (kw g σ) H.size) s H := (hXt.kept hSS.2.1).narrow hfree
  have hstk : (((kArgs ys).reverse : List kV).map (kcv g)) = ((kArgs ys).map (kcv g)).reverse ++ [] := by simp
  have hlen2 : ((kArgs ys).map (kcv g)).length = n + 2 := by simp [kArgs, hlen]
  have join : ∀ (st₀ t T' : State) (Ls : List Loc), st₀.heap = H → T'.heap = t.heap → va_F (va_A (kw g σ) H.size) st₀ t → (∀ z ∈ Ls, va_A (kw g σ) H.size z.base) → va_S A H0 T'.heap (locs ++ Ls) := by
    intro st₀ t T' Ls h0 e1 hF1 hL
    obtain ⟨hz, hk⟩ := hF1
    rw [h0] at hz hk
    exact ⟨Nat.le_trans hSS.1 (by rw [e1]; exact hz), fun q h1 h2 => by rw [e1, hk q (Nat.lt_of_lt_of_le h1 hSS.1) (fun z => h2 (hfree q z))]; exact hSS.2.1 q h1 h2, fun q hq => by
      rcases List.mem_append.mp hq with h | h
      · exact hSS.2.2 q h
      · exact hfree _ (hL q h)⟩
  have run := vx_runSX (As := (kArgs ys).map (kcv g)) (rest := []) (own := M.2.1) (Ts := kTBL) (n := n + 2) (index := idx) (hh := hh) (bytes := cc) (maxL := nL) (ret := some .int) (R := M.2.2.2.1) (cells := cells) (slots := slots) (H := H) (locs := locs) (g := F0 m pc ls (((kArgs ys).reverse : List kV).map (kcv g))) (p := p) (l := l) (e := e) (s := s) (m := m) (args := args) (below := below) (meth := meth) (c := c) ⟨hxx, hb, hml, hown, hts⟩ hM
    ⟨⟨hR.1, hR.2.1, hR.2.2.1, hR.2.2.2, pay_in hts (kgood_inW hv1), List.mem_cons_self⟩, hts _ hv1, hts _ hv4, hv6, fun sig h => by rw [h] at hv7; exact (Option.some.inj hv7).symm, hts _ hl, hts _ hv2⟩
    ⟨kPX.blind, fun U hU hW => ⟨rfl, by rw [hU], by rw [hU]; exact hP, va_K.moved hW.alike hK, (hD σ).weaken (fun _ _ _ _ => trivial), hcs.2.warm hW, by rw [hU]; exact hX2.warm hW⟩⟩ rfl hlen2 hll.1 hstk (by show 2 * 0 + 0 ≤ 8; decide) hd ⟨hc1, hs1⟩
  intro T hT X
  rcases run T hT X with ⟨v2, st₀, t, T', Ls, h0, X', hL, e1, e2, ⟨⟨hv0, hp⟩, hF1⟩, go⟩ | ⟨q, st₀, t, T', Ls, E, ce, h0, X', hL, e1, e2, hx, -⟩
  · cases hv0
    obtain ⟨t2, a1, b1⟩ := kk T'.heap (locs ++ Ls) ls (by rw [e1]; exact hp) (join st₀ t T' Ls h0 e1 hF1 hL) hll T' rfl X'
    exact ⟨t2, go t2 a1, b1⟩
  · exact hx.elim
