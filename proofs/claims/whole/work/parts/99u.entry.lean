/-! THE LAW 4: what holds at its entry (printed by gen7.py) -/
theorem tb1 {w : Cond} (n : Nat) (h : tables_1_1[n]? = some w) : w ∈ lw_tbl := List.mem_append_right _ (List.mem_append_left _ (List.mem_of_getElem? h))
theorem tb2 {w : Cond} (n : Nat) (h : tables_1_2[n]? = some w) : w ∈ lw_tbl := List.mem_append_right _ (List.mem_append_right _ (List.mem_append_left _ (List.mem_of_getElem? h)))
theorem tb3 {w : Cond} (n : Nat) (h : tables_1_3[n]? = some w) : w ∈ lw_tbl := List.mem_append_right _ (List.mem_append_right _ (List.mem_append_right _ (List.mem_append_left _ (List.mem_of_getElem? h))))
theorem tb4 {w : Cond} (n : Nat) (h : tables_1_4[n]? = some w) : w ∈ lw_tbl := List.mem_append_right _ (List.mem_append_right _ (List.mem_append_right _ (List.mem_append_right _ (List.mem_append_left _ (List.mem_of_getElem? h)))))
theorem tb5 {w : Cond} (n : Nat) (h : tables_1_5[n]? = some w) : w ∈ lw_tbl := List.mem_append_right _ (List.mem_append_right _ (List.mem_append_right _ (List.mem_append_right _ (List.mem_append_right _ (List.mem_append_left _ (List.mem_of_getElem? h))))))
theorem tb6 {w : Cond} (n : Nat) (h : tables_1_6[n]? = some w) : w ∈ lw_tbl := List.mem_append_right _ (List.mem_append_right _ (List.mem_append_right _ (List.mem_append_right _ (List.mem_append_right _ (List.mem_append_right _ (List.mem_append_left _ (List.mem_of_getElem? h)))))))
theorem tb7 {w : Cond} (n : Nat) (h : tables_1_7[n]? = some w) : w ∈ lw_tbl := List.mem_append_right _ (List.mem_append_right _ (List.mem_append_right _ (List.mem_append_right _ (List.mem_append_right _ (List.mem_append_right _ (List.mem_append_right _ (List.mem_of_getElem? h)))))))
section LE
variable {s : State} {b : Nat}
theorem law_nest (hts : ∀ w ∈ lw_tbl, w.before #[Value.ref b] s = true) : kNest s := by
  intro q hq
  have h3 : q = (RX10, 55, yX11_leaveOut, RX11) ∨ q = (RX1, 25, yX11_leaveOut, RX11) ∨ q = (RX0, 36, yX11_leaveOut, RX11) := by simpa [kNW] using hq
  rcases h3 with rfl | rfl | rfl
  · exact va_Nw.of rfl (hts _ (tb4 127 (by decide +kernel)))
  · exact va_Nw.of rfl (hts _ (tb4 134 (by decide +kernel)))
  · exact va_Nw.of rfl (hts _ (tb4 183 (by decide +kernel)))
theorem law_nestI (hts : ∀ w ∈ lw_tbl, w.before #[Value.ref b] s = true) : kNestI s := by
  intro q hq
  have h3 : q = (RX11, 15, yX10_init, RX11) ∨ q = (RX11, 75, yX2_init, RX11) ∨ q = (RX10, 23, yX1_init, RX11) := by simpa [kNWI] using hq
  rcases h3 with rfl | rfl | rfl
  · exact va_Nw.of rfl (hts _ (tb1 33 (by decide +kernel)))
  · exact va_Nw.of rfl (hts _ (tb2 98 (by decide +kernel)))
  · exact va_Nw.of rfl (hts _ (tb1 39 (by decide +kernel)))
theorem law_str {k : Nat} {tx : String} (h1 : (Cond.stringRef RX11 k tx).before #[Value.ref b] s = true) (h2 : (Cond.exactly (.string RX11 k) "java/lang/String").before #[Value.ref b] s = true) : ∃ sa, vk_R RX11 k tx sa s := by
  obtain ⟨a, c, cell, kA, e, -⟩ := Cond.exactly_spec (show (Cond.exactly (.string RX11 k) "java/lang/String").holds #[Value.ref b] s none s [] = true from h2)
  exact ⟨a, vk_R.of h1 e⟩
set_option maxRecDepth 20000 in
theorem law_vm (hts : ∀ w ∈ lw_tbl, w.before #[Value.ref b] s = true) (hgv : (Jvm.Cond.and given_1 narrow_1).before #[Value.ref b] s = true) : kVm s := by
  have hs := flat_of_before _ hgv
  refine ⟨fun q hq => ?_, fun q hq => ?_, fun q hq => ?_, fun q hq => ?_⟩
  · have h3 : q = (101, "no room for a node") ∨ q = (116, "a chain has 1 to 300 nodes") ∨ q = (123, "no room for the chain") ∨ q = (134, "no such node") ∨ q = (137, "no room for an arc") ∨ q = (146, "no such arc") ∨ q = (204, "no such what") ∨ q = (220, "no such place") ∨ q = (225, "no such node, or k is below 0") ∨ q = (230, "k is below 0") ∨ q = (242, "no room for a step") ∨ q = (250, "no such arc, or no such step that puts one") ∨ q = (257, "a step ahead takes it already") ∨ q = (266, "not so many steps") ∨ q = (283, "not so many steps, or no such node") := by simpa [kStrs] using hq
    rcases h3 with rfl | rfl | rfl | rfl | rfl | rfl | rfl | rfl | rfl | rfl | rfl | rfl | rfl | rfl | rfl
    · exact law_str (hts _ (tb3 170 (by decide +kernel))) (hs _ (by decide +kernel))
    · exact law_str (hts _ (tb4 13 (by decide +kernel))) (hs _ (by decide +kernel))
    · exact law_str (hts _ (tb4 24 (by decide +kernel))) (hs _ (by decide +kernel))
    · exact law_str (hts _ (tb4 91 (by decide +kernel))) (hs _ (by decide +kernel))
    · exact law_str (hts _ (tb4 98 (by decide +kernel))) (hs _ (by decide +kernel))
    · exact law_str (hts _ (tb4 122 (by decide +kernel))) (hs _ (by decide +kernel))
    · exact law_str (hts _ (tb5 29 (by decide +kernel))) (hs _ (by decide +kernel))
    · exact law_str (hts _ (tb5 50 (by decide +kernel))) (hs _ (by decide +kernel))
    · exact law_str (hts _ (tb5 62 (by decide +kernel))) (hs _ (by decide +kernel))
    · exact law_str (hts _ (tb5 83 (by decide +kernel))) (hs _ (by decide +kernel))
    · exact law_str (hts _ (tb5 99 (by decide +kernel))) (hs _ (by decide +kernel))
    · exact law_str (hts _ (tb5 116 (by decide +kernel))) (hs _ (by decide +kernel))
    · exact law_str (hts _ (tb5 130 (by decide +kernel))) (hs _ (by decide +kernel))
    · exact law_str (hts _ (tb5 148 (by decide +kernel))) (hs _ (by decide +kernel))
    · exact law_str (hts _ (tb5 170 (by decide +kernel))) (hs _ (by decide +kernel))
  · have h3 : q = (eUO, eIA) ∨ q = (eUO, eIO) ∨ q = (eUO, eIS) ∨ q = (eIA, eUO) ∨ q = (eIA, eIO) ∨ q = (eIA, eIS) ∨ q = (eIO, eUO) ∨ q = (eIO, eIA) ∨ q = (eIO, eIS) ∨ q = (eIS, eUO) ∨ q = (eIS, eIA) ∨ q = (eIS, eIO) := by simpa [kNcs] using hq
    rcases h3 with rfl | rfl | rfl | rfl | rfl | rfl | rfl | rfl | rfl | rfl | rfl | rfl
    · exact va_Nc.of (hs _ (by decide +kernel))
    · exact va_Nc.of (hs _ (by decide +kernel))
    · exact va_Nc.of (hs _ (by decide +kernel))
    · exact va_Nc.of (hs _ (by decide +kernel))
    · exact va_Nc.of (hs _ (by decide +kernel))
    · exact va_Nc.of (hs _ (by decide +kernel))
    · exact va_Nc.of (hs _ (by decide +kernel))
    · exact va_Nc.of (hs _ (by decide +kernel))
    · exact va_Nc.of (hs _ (by decide +kernel))
    · exact va_Nc.of (hs _ (by decide +kernel))
    · exact va_Nc.of (hs _ (by decide +kernel))
    · exact va_Nc.of (hs _ (by decide +kernel))
  · have h3 : q = eUO ∨ q = eIA ∨ q = eIO ∨ q = eIS := by simpa [eAll] using hq
    rcases h3 with rfl | rfl | rfl | rfl
    · exact va_Nw.of rfl (hts _ (tb3 130 (by decide +kernel)))
    · exact va_Nw.of rfl (hts _ (tb4 6 (by decide +kernel)))
    · exact va_Nw.of rfl (hts _ (tb4 84 (by decide +kernel)))
    · exact va_Nw.of rfl (hts _ (tb5 123 (by decide +kernel)))
  · have h3 : q = Bundle.initS "java/lang/RuntimeException" ∨ q = Bundle.initS "java/lang/Exception" ∨ q = Bundle.initS Bundle.tN := by simpa [kDcl] using hq
    rcases h3 with rfl | rfl | rfl
    · exact va_Nw.of rfl (hts _ (tb3 132 (by decide +kernel)))
    · exact va_Nw.of rfl (hts _ (tb3 134 (by decide +kernel)))
    · exact va_Nw.of rfl (hts _ (tb3 136 (by decide +kernel)))
theorem law_xt (hts : ∀ w ∈ lw_tbl, w.before #[Value.ref b] s = true) (hgv : (Jvm.Cond.and given_1 narrow_1).before #[Value.ref b] s = true) : kXt (fun q => s.heap.size ≤ q) s s.heap := by
  have hs := flat_of_before _ hgv
  exact ⟨law_vm hts hgv, vx_Zqof (args := #[Value.ref b]) (hts _ (tb3 155 (by decide +kernel))) (hts _ (tb1 15 (by decide +kernel))) (hs _ (by decide +kernel)) (fun a ha => Nat.not_le.mpr ha), vx_Zqof (args := #[Value.ref b]) (hts _ (tb3 157 (by decide +kernel))) (hts _ (tb1 15 (by decide +kernel))) (hs _ (by decide +kernel)) (fun a ha => Nat.not_le.mpr ha)⟩
theorem law_known (hts : ∀ w ∈ kTBL, w.before #[Value.ref b] s = true) : ∃ (D : va_G) (I : ClassId × ClassId × ClassId), va_K D kcl [(I.1, .int), (I.2.1, .boolean), (I.2.2, .long)] s := by
  have each : ∀ {R : String} {T : u_T} {N : Nat}, (∀ w ∈ u_ws R T N, w ∈ kTBL) → Cond.instantiable R N ∈ kTBL → ∃ p : ClassId × (Nat → Nat), u_Kn s R T N p.1 p.2 := by
    intro R T N h1 h2
    obtain ⟨c, i, h⟩ := u_known hts h1 (hts _ h2)
    exact ⟨(c, i), h⟩
  have hk : ∀ k : Nat, ∃ p : ClassId × (Nat → Nat), ∀ q : vw_C, kcl[k]? = some q → u_Kn s q.1 q.2.1 q.2.2 p.1 p.2 := by
    intro k
    match k with
    | 0 =>
      obtain ⟨p, h⟩ := each kin_0 wi0.1
      exact ⟨p, fun q hq => by cases hq; exact h⟩
    | 1 =>
      obtain ⟨p, h⟩ := each kin_1 wi1.1
      exact ⟨p, fun q hq => by cases hq; exact h⟩
    | 2 =>
      obtain ⟨p, h⟩ := each kin_2 wi2.1
      exact ⟨p, fun q hq => by cases hq; exact h⟩
    | 3 =>
      obtain ⟨p, h⟩ := each kin_3 wi3.1
      exact ⟨p, fun q hq => by cases hq; exact h⟩
    | 4 =>
      obtain ⟨p, h⟩ := each kin_4 wi4.1
      exact ⟨p, fun q hq => by cases hq; exact h⟩
    | 5 =>
      obtain ⟨p, h⟩ := each kin_5 wi5.1
      exact ⟨p, fun q hq => by cases hq; exact h⟩
    | 6 =>
      obtain ⟨p, h⟩ := each kin_6 wi6.1
      exact ⟨p, fun q hq => by cases hq; exact h⟩
    | 7 =>
      obtain ⟨p, h⟩ := each kin_7 wi7.1
      exact ⟨p, fun q hq => by cases hq; exact h⟩
    | 8 =>
      obtain ⟨p, h⟩ := each kin_8 wi8.1
      exact ⟨p, fun q hq => by cases hq; exact h⟩
    | 9 =>
      obtain ⟨p, h⟩ := each kin_9 wi9.1
      exact ⟨p, fun q hq => by cases hq; exact h⟩
    | 10 =>
      obtain ⟨p, h⟩ := each kin_10 wi10.1
      exact ⟨p, fun q hq => by cases hq; exact h⟩
    | 11 =>
      obtain ⟨p, h⟩ := each kin_11 wi11.1
      exact ⟨p, fun q hq => by cases hq; exact h⟩
    | 12 =>
      obtain ⟨p, h⟩ := each kin_12 wi12.1
      exact ⟨p, fun q hq => by cases hq; exact h⟩
    | k + 13 => exact ⟨(0, fun _ => 0), fun q hq => by simp [kcl] at hq⟩
  obtain ⟨c1, k1, m1, a1, a2, a3⟩ := Cond.arrayClass_spec (show (Cond.arrayClass .int).holds #[Value.ref b] s none s [] = true from hts _ w_arr_int)
  obtain ⟨c2, k2, m2, b1, b2, b3⟩ := Cond.arrayClass_spec (show (Cond.arrayClass .boolean).holds #[Value.ref b] s none s [] = true from hts _ w_arr_boolean)
  obtain ⟨c3, k3, m3, d1, d2, d3⟩ := Cond.arrayClass_spec (show (Cond.arrayClass .long).holds #[Value.ref b] s none s [] = true from hts _ w_arr_long)
  refine ⟨(fun k => (Classical.choose (hk k)).1, fun k => (Classical.choose (hk k)).2), (c1, c2, c3), fun k q hq => Classical.choose_spec (hk k) q hq, fun k q hq => ?_⟩
  match k, hq with
  | 0, hq => cases hq; exact ⟨fun n z => ⟨fun k h => (by cases h), k1, a2, m1, a3⟩, a1⟩
  | 1, hq => cases hq; exact ⟨fun n z => ⟨fun k h => (by cases h), k2, b2, m2, b3⟩, b1⟩
  | 2, hq => cases hq; exact ⟨fun n z => ⟨fun k h => (by cases h), k3, d2, m3, d3⟩, d1⟩
  | k + 3, hq => simp at hq
end LE
theorem ms_cell : kMs yL_cell cL_cell 2 (some .int) 2 := ⟨(ktb3 119 (by decide +kernel) (by decide +kernel)), (ktb3 118 (by decide +kernel) (by decide +kernel)), (ktb1 0 (by decide +kernel) (by decide +kernel)), ⟨by decide +kernel, by decide +kernel⟩, by decide +kernel⟩
/-- the law's private method cell, on the script -/
theorem c_cell (l : Launch) (b L : Nat) (xs : Nat → Int32) (hL : L < 2147483648) : Met l yL_cell (.code yL_cell cL_cell 2 (some .int) :: kTBL) { frames := 0, cells := 0, slots := 0, locals := 0 } (va_Pc [.ref b, .int 0] (fun U => va_X b L xs U U.heap ∧ b < U.heap.size))
    (va_Qi (fun r (_ : Unit) => r = if 0 < L then xs 0 else 0) (fun _ _ => True) (fun _ => False)) 0 0 (fun _ => False) := by
  refine Met.ofW (cc := cL_cell) (maxL := 2) (ret := some .int) (by decide +kernel) rfl ?_
  intro p e s m args below meth c s₁ B hml hv
  obtain ⟨rfl, hX, hbl⟩ := hv
  have hx := B.exec
  have hb := B.bytes
  have hr := B.returns
  have hl := lv_entry [.ref b, .int 0] (n := 2) (Nat.le_of_ble_eq_true rfl)
  rw [lg_entry_eq]
  generalize (lg_sl ([.ref b, .int 0]) ++ List.replicate (2 - (lg_sl ([.ref b, .int 0])).length) Slot.unset).toArray = ls at hl ⊢
  have hl : lv_has ls 2 [(0, .ref b), (1, .int 0)] := hl
  have hS : va_S (fun _ => False) s.heap s.heap [] := va_S.rf
  refine lv_iload_n hx hb dL_cell_0 rfl (lv_at hl 1 rfl) ?_
  refine lv_aload_n hx hb dL_cell_1 rfl (lv_at hl 0 rfl) ?_
  refine va_slen hx hb hX hbl (fun h => h) hS dL_cell_2 ?_
  have e0 : Int32.ofNat L ≤ (0 : Int32) ↔ L ≤ 0 := n_ofInt (i := 0) (j := L) (by decide) hL
  refine lv_icmp_ge (tgt := 12) hx hb dL_cell_3 (by decide) (fun h => ?_) (fun h => ?_)
  · have h0 : ¬ 0 < L := by have := e0.mp h; omega
    refine lv_iconst (v := 0) hx hb dL_cell_12 (by decide) ?_
    exact W.iret (v := 0) hx hb hr (fun t ht hW => ⟨⟨0, (), rfl, by rw [if_neg h0], trivial⟩, hS.F ht⟩) hS.2.2 dL_cell_13
  · have h0 : 0 < L := by
      rcases Nat.lt_or_ge 0 L with q | q
      · exact q
      · exact absurd (e0.mpr q) h
    refine lv_aload_n hx hb dL_cell_6 rfl (lv_at hl 0 rfl) ?_
    refine lv_iload_n hx hb dL_cell_7 rfl (lv_at hl 1 rfl) ?_
    refine va_sld (i := 0) hx hb hX hbl (fun h => h) hS (vp_in_nI h0 hL) dL_cell_8 ?_
    refine lv_goto (tgt := 13) hx hb dL_cell_9 (by decide) ?_
    exact W.iret (v := xs (0 : Int32).toNatClampNeg) hx hb hr (fun t ht hW => ⟨⟨_, (), rfl, by rw [if_pos h0]; rfl, trivial⟩, hS.F ht⟩) hS.2.2 dL_cell_13
def nX (B : nB) (b L : Nat) (xs : Nat → Int32) : Prop := match B with
  | (_, _, _, s, _, _, _, _, _, _, _, A, H0) => va_X b L xs s H0 ∧ b < H0.size ∧ ¬ A b ∧ L < 2147483648
section NU
variable {M : kM} {B : nB} {k n pc : Nat} {Lc Lc' : List (Nat × Value)} {st : List Value} {ws : va_W}
theorem n_astore {i : Fin 4} {a : Nat} (C : nC M B) (hd : decode M.1 pc = .ok (.astore_n i, 1)) (hi : (i : Nat) < M.2.2.1) (hl : ((i : Nat), Value.ref a) :: Lc.filter (fun q => !(q.1 == (i : Nat)) && !(q.1 + 1 == (i : Nat) && q.2.category == 2)) = Lc') (kk : nW M B k n (pc + 1) Lc' st ws) : nW M B k n pc Lc (.ref a :: st) ws := by
  obtain ⟨p, l, e, s, m, args, below, meth, c, Q, g, A, H0⟩ := B
  obtain ⟨hx, hb, hml, hown, hts, hK, hA, hN⟩ := C
  intro H locs ls hP hD hS hll
  exact lv_astore_n hx hb hd rfl hll hi hl (fun ls' hl' => kk H locs ls' hP hD hS hl')
theorem n_istore {i : Nat} {x : Int32} (C : nC M B) (hd : decode M.1 pc = .ok (.istore i, 2)) (hi : i < M.2.2.1) (hl : (i, Value.int x) :: Lc.filter (fun q => !(q.1 == i) && !(q.1 + 1 == i && q.2.category == 2)) = Lc') (kk : nW M B k n (pc + 2) Lc' st ws) : nW M B k n pc Lc (.int x :: st) ws := by
  obtain ⟨p, l, e, s, m, args, below, meth, c, Q, g, A, H0⟩ := B
  obtain ⟨hx, hb, hml, hown, hts, hK, hA, hN⟩ := C
  intro H locs ls hP hD hS hll
  exact lv_istore hx hb hd hll hi hl (fun ls' hl' => kk H locs ls' hP hD hS hl')
theorem n_callCell {idx b L : Nat} {xs : Nat → Int32} {w : Int32} (C : nC M B) (hX : nX B b L xs) (hw0 : (if 0 < L then xs 0 else 0) = w) (hd : decode M.1 pc = .ok (.invokestatic idx, 3)) (hl : Cond.methodLink M.2.1 idx yL_cell ∈ kTBL) (hR : 1 ≤ M.2.2.2.1.frames ∧ 21 ≤ M.2.2.2.1.locals) (hk : k ≤ M.2.2.2.1.cells ∧ n ≤ M.2.2.2.1.slots) (hst : (st.map fun v => v.category).sum ≤ 8)
    (kk : nW M B k n (pc + 3) Lc (.int w :: st) ws) : nW M B k n pc Lc (.int 0 :: .ref b :: st) ws := by
  obtain ⟨p, l, e, s, m, args, below, meth, c, Q, g, A, H0⟩ := B
  obtain ⟨hx, hb, hml, hown, hts, hK, hA, hNN, hI⟩ := C
  obtain ⟨x1, x2, x3, x4⟩ := hX
  obtain ⟨hv1, hv2, hv4, hv6, hv7⟩ := ms_cell
  intro H locs ls hP hD hS hll
  have hkeep : H[b]? = H0[b]? := hS.2.1 b x2 x3
  refine va_calli (va_runS (As := [.ref b, .int 0]) (rest := st) (own := M.2.1) (Ts := kTBL) (n := 2) (index := idx) ⟨hx, hb, hml, hown, hts⟩ (c_cell l b L xs x4) ⟨callB_of 2 hts (kgood_in hv1) rfl rfl rfl (hts _ hv4) (hts _ hl) ⟨hv6.1, hv6.2, hv7⟩ ⟨hR.1, by have := hR.2; show 8 + (2 + 11) + 0 ≤ _; omega⟩, hts _ hv2⟩ ⟨fun a U g' mk q2 => ?_, fun U hU hW => ⟨rfl, by rw [hU]; exact (x1.kept hkeep).moved hW.alike, by rw [hU]; exact Nat.lt_of_lt_of_le x2 hS.1⟩⟩ rfl rfl hll.1 rfl (lv_room hst) hd ⟨hk.1, hk.2⟩) hS (fun q _ h => h.elim) (fun q h => h.elim) (fun r u t H1 locs1 ht hvm hw hB hz1 hk1 hS1 => ?_)
  · obtain ⟨q0, q1, q3⟩ := q2
    exact ⟨q0, va_X.moved (u := U) (U := U.calling g' mk a) (Vm.Alike.refl U.vm) q1, q3⟩
  · rw [hw, hw0]
    exact kk H1 locs1 ls (hP.kept (fun i q hq => hk1 q.1 ((hP i q hq).lt) (fun h => h))) hD hS1 hll
end NU
def R_law : String := "KeptPartsLaw"
def lw_P (b : Addr) (xs : List Int32) (args : Array Value) (s : State) : Prop := args = #[.ref b] ∧ s.IntsAt b xs ∧ xs.length ≤ 2049 ∧ (Jvm.Cond.and given_1 narrow_1).before args s = true
def lw_Q (_ : Array Value) (s : State) (o : Outcome) (t : State) : Prop := o = .returned (some (.int 1)) ∧ Framed s o t [] 601024 7293000
def lw_Z (below : List Frame) (a : Array Value) (s : State) : State → Prop := fun t => ∃ o, t.status = .running ∧ Ended t below o ∧ lw_Q a s o t
/-- the law's own end, with 1 on the stack, nothing written that was there before, its room as the claim has it -/
theorem lw_ret {p : Program} {l : Launch} {e : Env} {s : State} {m : MethodId} {below : List Frame} {meth : Method} {c : Code} {b : Nat} (hx : p.tables.exec = Jvm.exec) (hb : c.code = code) (hr : meth.sig.returnType = ret) (hlocks : meth.locks = false) {pc : Nat} {H : Heap} {ls : Array Slot} (hdg : decode code pc = .ok (.ireturn, 1)) : W p l e room_1 s m #[Value.ref b] below meth c H [] 601024 7293000 (lw_Z below #[Value.ref b] s) (F0 m pc ls [.int 1]) := by
  intro T hT X
  obtain ⟨fs, hret, hrun, hended, hW, hframe⟩ := X.leave (v := some (.int 1)) (hlocks := hlocks) (fun h => by rw [hr] at h; cases h)
  have hmeth' : T.vm.method? m = some meth := X.method'
  refine ⟨T.setFrames fs, ?_, .returned (some (.int 1)), hrun, hended, rfl, ⟨_, rfl⟩, hW, hframe⟩
  jvm_step X.here [X.here.top, hx, hb, hdg, hmeth', hr, ret, narrow_b1]
  (try refine ⟨rfl, ?_⟩); (try refine ⟨rfl, ?_⟩)
  first | (intro acts; rw [hret _ acts rfl rfl rfl]) | rw [hret _ _ rfl rfl rfl]
  exact Steps.refl _
/-- what holds at the law's entry: the machine, the code, the tables' words (any of lw_tbl by 'hts w (by decide +kernel)'), the script of L ints xs at the cell b, what the Statement gives of the start (any of its parts by flat_of_before) -/
def lw_At (p : Program) (s : State) (m : MethodId) (meth : Method) (c : Code) (b L : Nat) (xs : Nat → Int32) : Prop :=
  p.tables.exec = Jvm.exec ∧ c.code = code ∧ meth.sig.returnType = ret ∧ c.maxLocals = 7 ∧ s.vm.findClass R_law = some m.cls ∧ (∀ w ∈ lw_tbl, w.before #[Value.ref b] s = true) ∧ va_X b L xs s s.heap ∧ b < s.heap.size ∧ meth.locks = false ∧ (Jvm.Cond.and given_1 narrow_1).before #[Value.ref b] s = true
theorem kRe_go {g : kG} {p : Program} {l : Launch} {e : Env} {s : State} {m : MethodId} {below : List Frame} {meth : Method} {c : Code} {b : Nat} (hx : p.tables.exec = Jvm.exec) (hb : c.code = code) (hr : meth.sig.returnType = ret) (hlocks : meth.locks = false) {cl sl : Nat} (h1 : cl ≤ 601024) (h2 : sl ≤ 7293000) (Lc : kL) (σ : kS) :
    kW MLw (p, l, e, s, m, #[Value.ref b], below, meth, c, lw_Z below #[Value.ref b] s, g, (fun q => s.heap.size ≤ q), s.heap, cl, sl) 1310 Lc [] σ := by
  intro H locs ls hP hS hl
  refine lv_iconst (v := 1) hx hb dL_law_1310 (by decide) ?_
  refine va_forget (fun q hq => hS.2.2 q hq) ?_
  refine W.widen (k := 601024) (n := 7293000) h1 h2 ?_
  exact lw_ret hx hb hr hlocks dL_law_1311
theorem klh_start {ls : Array Slot} {g : kG} {a b c d : Nat} {as bs : List Nat} (hl : lv_has ls 7 [(4, .int 1), (3, .ref c), (2, .ref b), (1, .ref a), (0, .ref d)]) : klh (nG g a b c d as bs) ls 7 (L5 1) := by
  refine ⟨hl.1, hl.2.1, fun i v hi => ?_⟩
  match i, hi with
  | 0, hi => cases hi; exact hl.2.2 (0, .ref d) (by simp)
  | 1, hi => cases hi; exact hl.2.2 (1, .ref a) (by simp)
  | 2, hi => cases hi; exact hl.2.2 (2, .ref b) (by simp)
  | 3, hi => cases hi; exact hl.2.2 (3, .ref c) (by simp)
  | 4, hi => cases hi; exact hl.2.2 (4, .int 1) (by simp)
  | i + 5, hi => simp at hi
set_option maxRecDepth 20000 in
set_option maxHeartbeats 4000000 in
/-- THE LAW, from its entry -/
theorem whole_start {p : Program} {e : Env} {s : State} {m : MethodId} {below : List Frame} {meth : Method} {c : Code} (l : Launch) (hflags : l.flags = flags0) {b L : Nat} {xs : Nat → Int32} (hL : L ≤ 2049) (C0 : lw_At p s m meth c b L xs) : W p l e room_1 s m #[Value.ref b] below meth c s.heap [] 0 0 (lw_Z below #[Value.ref b] s) (entryFrame m ([Value.ref b] : List Value).toArray 7) := by
  obtain ⟨hx, hb, hr, hml, hown, hts0, hX, hbl, hlocks, hgv⟩ := C0
  have hts : ∀ w ∈ kTBL, w.before #[Value.ref b] s = true := fun w hw => hts0 w (kTBL_sub hw)
  obtain ⟨D, I, hK⟩ := law_known hts
  have hst : l.stackTraces = false := by
    unfold Launch.stackTraces
    rw [hflags]
    decide +kernel
  have hxt := law_xt hts0 hgv
  have hN1 := law_nest hts0
  have hN2 := law_nestI hts0
  have hbA : ¬ (fun q : Nat => s.heap.size ≤ q) b := Nat.not_le.mpr hbl
  have hL31 : L < 2147483648 := by omega
  obtain ⟨g, hg⟩ : ∃ g : kG, g = (D, I, fun _ => 0) := ⟨_, rfl⟩
  have hK : va_K g.1 kcl (ktys g) s := by rw [hg]; exact hK
  have hC : nC MLw (p, l, e, s, m, #[Value.ref b], below, meth, c, lw_Z below #[Value.ref b] s, g, (fun q => s.heap.size ≤ q), s.heap) := ⟨hx, hb, hml, hown, hts, hK, fun q hq => hq, hN1, hN2⟩
  have hLX : nX (p, l, e, s, m, #[Value.ref b], below, meth, c, lw_Z below #[Value.ref b] s, g, (fun q => s.heap.size ≤ q), s.heap) b L xs := ⟨hX, hbl, hbA, hL31⟩
  obtain ⟨w, hw⟩ : ∃ w : Int32, (if 0 < L then xs 0 else 0) = w := ⟨_, rfl⟩
  have K : nW MLw (p, l, e, s, m, #[Value.ref b], below, meth, c, lw_Z below #[Value.ref b] s, g, (fun q => s.heap.size ≤ q), s.heap) 0 0 0 [(0, .ref b)] [] [] := by
    refine n_new (k' := 1) (n' := 13) hC ncl11 dL_law_0 ⟨(ktb1 23 (by decide +kernel) (by decide +kernel)), wi11⟩ ⟨rfl, rfl, by decide, by decide⟩ (fun qa => ?_)
    refine n_dup hC dL_law_3 rfl ?_
    refine n_aload hC 0 dL_law_4 rfl ?_
    refine n_iconst (v := 0) hC dL_law_5 rfl ?_
    refine n_callCell hC hLX hw dL_law_6 (ktb3 117 (by decide +kernel) (by decide +kernel)) ⟨by decide, by decide⟩ ⟨by decide, by decide⟩ (Nat.le_of_ble_eq_true rfl) ?_
    refine n_callI (nA := 1) (k' := 69) (n' := 53106) (av := [.int w]) hC nc_11 dL_law_9 ⟨(ktb1 27 (by decide +kernel) (by decide +kernel)), (ktb1 26 (by decide +kernel) (by decide +kernel)), (ktb1 1 (by decide +kernel) (by decide +kernel))⟩ (ktb1 25 (by decide +kernel) (by decide +kernel)) ⟨rfl, by decide +kernel, by decide +kernel, by decide +kernel⟩ ⟨rfl, rfl, by decide, by decide⟩ ⟨rfl, rfl, by decide, by decide⟩ rfl ⟨_, rfl⟩ (Nat.le_of_ble_eq_true rfl) (fun as => ?_)
    refine n_astore (Lc' := [(1, .ref qa), (0, .ref b)]) hC dL_law_12 (by decide) rfl ?_
    refine n_new (k' := 70) (n' := 53156) hC ncl12 dL_law_13 ⟨(ktb5 208 (by decide +kernel) (by decide +kernel)), wi12⟩ ⟨rfl, rfl, by decide, by decide⟩ (fun qb => ?_)
    refine n_dup hC dL_law_16 rfl ?_
    refine n_aload hC 1 dL_law_17 rfl ?_
    refine n_iconst (v := 0) hC dL_law_18 rfl ?_
    refine n_callCell hC hLX hw dL_law_19 (ktb3 117 (by decide +kernel) (by decide +kernel)) ⟨by decide, by decide⟩ ⟨by decide, by decide⟩ (Nat.le_of_ble_eq_true rfl) ?_
    refine n_callI (nA := 1) (k' := 110) (n' := 193717) (av := [.int w]) hC nc_12 dL_law_22 ⟨(ktb5 212 (by decide +kernel) (by decide +kernel)), (ktb5 211 (by decide +kernel) (by decide +kernel)), (ktb1 14 (by decide +kernel) (by decide +kernel))⟩ (ktb5 210 (by decide +kernel) (by decide +kernel)) ⟨rfl, by decide +kernel, by decide +kernel, by decide +kernel⟩ ⟨rfl, rfl, by decide, by decide⟩ ⟨rfl, rfl, by decide, by decide⟩ rfl ⟨_, rfl⟩ (Nat.le_of_ble_eq_true rfl) (fun bs => ?_)
    refine n_astore (Lc' := [(2, .ref qb), (1, .ref qa), (0, .ref b)]) hC dL_law_25 (by decide) rfl ?_
    refine n_iconst (v := 1) hC dL_law_26 rfl ?_
    refine n_newl (N := 1) (k' := 111) (n' := 193718) hC dL_law_27 w_arr_long ⟨by decide, by decide, by decide⟩ ⟨rfl, rfl, by decide, by decide⟩ (fun qc => ?_)
    refine n_astore (Lc' := [(3, .ref qc), (2, .ref qb), (1, .ref qa), (0, .ref b)]) hC dL_law_29 (by decide) rfl ?_
    refine n_iconst (v := 1) hC dL_law_30 rfl ?_
    refine n_istore (Lc' := [(4, .int 1), (3, .ref qc), (2, .ref qb), (1, .ref qa), (0, .ref b)]) hC dL_law_31 (by decide) rfl ?_
    refine nW_eq (ws' := nWs g w qa qb qc as bs) rfl ?_
    intro H locs ls hP hD hS hl
    obtain ⟨x, hx01, hxw⟩ : ∃ x : Int, (x = 0 ∨ x = 1) ∧ nStr (.int w) = Int32.ofInt x := by
      by_cases h : w = 1
      · exact ⟨1, Or.inr rfl, if_pos h⟩
      · exact ⟨0, Or.inl rfl, if_neg h⟩
    have hkw := nWs_kw (g := g) (a := qa) (b := qb) (c := qc) (d := b) (as := as) (bs := bs) hxw
    have hP2 : va_P g.1 kcl (kw (nG g qa qb qc b as bs) (nS0 x)) H := hP.sub nPl (by
      have e0 : nPl.filterMap (fun i => (nWs g w qa qb qc as bs)[i]?) = (nPl.map (fun i => (nWs g w qa qb qc as bs)[i]?)).filterMap id := by rw [List.filterMap_map]; rfl
      rw [e0, hkw, List.filterMap_map]
      exact List.filterMap_some)
    have hD2 : va_D (fun q => s.heap.size ≤ q) (kw (nG g qa qb qc b as bs) (nS0 x)) := hD.sub nPl nPl_nd hkw
    have hC2 : kC MLw (p, l, e, s, m, #[Value.ref b], below, meth, c, lw_Z below #[Value.ref b] s, nG g qa qb qc b as bs, (fun q => s.heap.size ≤ q), s.heap, 111, 193718) := ⟨hx, hb, hml, hown, hts, hK, fun σ => kD_of hD2, fun q hq => hq, ⟨⟨by decide, by decide⟩, hN1⟩⟩
    exact law_loop 512 1 (p, l, e, s, m, #[Value.ref b], below, meth, c, lw_Z below #[Value.ref b] s, nG g qa qb qc b as bs, (fun q => s.heap.size ≤ q), s.heap, 111, 193718) (nS0 x) 0 (by omega) (by omega) (by omega) (by omega) (by show 111 + 512 ≤ 601024; decide) (by show 193718 + 6 * 512 ≤ 7293000; decide) ⟨hC2, hst, hxt⟩ ⟨hX, hbl, hbA, rfl, hL31⟩ (nS0_vs hx01) (JV_start x)
      (fun cl sl CE Lc σ => kRe_go hx hb hr hlocks CE.2.2.2.2.2.2.2.2.1.1 CE.2.2.2.2.2.2.2.2.1.2 Lc σ) H locs ls hP2 hS (klh_start hl)
  have hl := lv_entry ([.ref b]) (n := 7) (Nat.le_of_ble_eq_true rfl)
  rw [lg_entry_eq]
  generalize (lg_sl ([.ref b]) ++ List.replicate (7 - (lg_sl ([.ref b])).length) Slot.unset).toArray = ls at hl ⊢
  have hl : lv_has ls 7 [(0, .ref b)] := hl
  exact K s.heap [] ls (fun k q h => by simp at h) ⟨fun i j p q h => by simp at h, fun k q h => by simp at h⟩ va_S.rf hl
