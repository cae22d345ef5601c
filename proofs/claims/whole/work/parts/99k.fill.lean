/-! CONSTRUCTORS 2: Arrays.fill on one row -/
def nRow (g : kG) (q N j : Nat) : va_W := [(q, .inl (g.2.1.1, N, .inl (fun k => Int32.ofInt (if k < j then -1 else 0))))]
def nPf (g : kG) (q N sz : Nat) (U : State) : Prop := U.heap.size = sz ∧ va_P g.1 kcl (nRow g q N 0) U.heap ∧ va_K g.1 kcl (ktys g) U ∧ va_D (fun _ => True) (nRow g q N 0)
theorem n_ofInt {i j : Nat} (hi : i < 2147483648) (hj : j < 2147483648) : Int32.ofInt (j : Int) ≤ Int32.ofInt (i : Int) ↔ j ≤ i := by
  rw [k_le ⟨by omega, by omega⟩ ⟨by omega, by omega⟩]
  omega
theorem n_fill (l : Launch) (g : kG) (q N sz : Nat) (hN : N < 2147483648) : Met l yJ7_fill_53178 (.code yJ7_fill_53178 cJ7_fill_53178 4 none :: kTBL) { frames := 0, cells := 0, slots := 0, locals := 0 } (va_Pc [.ref q, .int (-1)] (nPf g q N sz))
    (va_Qv (fun _ : Unit => True) (fun _ t => va_P g.1 kcl (nRow g q N N) t.heap ∧ va_D (va_A (nRow g q N 0) sz) (nRow g q N N)) (va_A (nRow g q N 0) sz)) 0 0 (va_A (nRow g q N 0) sz) := by
  refine Met.ofW (cc := cJ7_fill_53178) (maxL := 4) (ret := none) (by decide +kernel) rfl ?_
  intro p e s m args below meth c s₁ B hml hv
  obtain ⟨rfl, hsz, hP, hK, hD0⟩ := hv
  subst hsz
  have hx := B.exec
  have hb := B.bytes
  have hD := hD0.self (sz := s.heap.size)
  have hl := lv_entry [.ref q, .int (-1)] (n := 4) (Nat.le_of_ble_eq_true rfl)
  rw [lg_entry_eq]
  generalize (lg_sl ([.ref q, .int (-1)]) ++ List.replicate (4 - (lg_sl ([.ref q, .int (-1)])).length) Slot.unset).toArray = ls at hl ⊢
  have hl : lv_has ls 4 [(0, .ref q), (1, .int (-1))] := hl
  have loop : ∀ (r j : Nat), N - j = r → j ≤ N → ∀ (H : Heap) (locs : List Loc) (ls : Array Slot), va_P g.1 kcl (nRow g q N j) H → va_D (va_A (nRow g q N 0) s.heap.size) (nRow g q N j) → va_S (va_A (nRow g q N 0) s.heap.size) s.heap H locs → lv_has ls 4 [(2, .int (Int32.ofInt (j : Int))), (3, .int (Int32.ofInt (N : Int))), (0, .ref q), (1, .int (-1))] →
      W p l e { frames := 0, cells := 0, slots := 0, locals := 0 } s m [Value.ref q, Value.int (-1)].toArray below meth c H locs 0 0 (MQ below (va_Qv (fun _ : Unit => True) (fun _ t => va_P g.1 kcl (nRow g q N N) t.heap ∧ va_D (va_A (nRow g q N 0) s.heap.size) (nRow g q N N)) (va_A (nRow g q N 0) s.heap.size)) [Value.ref q, Value.int (-1)].toArray s 0 0 (va_A (nRow g q N 0) s.heap.size)) (F0 m 5 ls []) := by
    intro r
    induction r with
    | zero =>
      intro j hr hj H locs ls hP hD hS hl
      have : j = N := by omega
      subst this
      refine lv_iload_n hx hb dJ7_fill_53178_5 rfl (lv_at hl 0 rfl) ?_
      refine lv_iload_n hx hb dJ7_fill_53178_6 rfl (lv_at hl 1 rfl) ?_
      refine lv_icmp_ge (tgt := 20) hx hb dJ7_fill_53178_7 (by decide) (fun _ => ?_) (fun h => absurd ((n_ofInt hN hN).mpr (Nat.le_refl _)) h)
      exact W.vret hx hb B.returns (fun t ht hW => ⟨⟨(), rfl, trivial, by rw [ht]; exact hP, hD⟩, hS.F ht⟩) hS.2.2 dJ7_fill_53178_20 B.notSynchronized
    | succ r ih =>
      intro j hr hj H locs ls hP hD hS hl
      have hjN : j < N := by omega
      have hj32 : kR32 (j : Int) := ⟨by omega, by omega⟩
      refine lv_iload_n hx hb dJ7_fill_53178_5 rfl (lv_at hl 0 rfl) ?_
      refine lv_iload_n hx hb dJ7_fill_53178_6 rfl (lv_at hl 1 rfl) ?_
      refine lv_icmp_ge (tgt := 20) hx hb dJ7_fill_53178_7 (by decide) (fun h => absurd ((n_ofInt (by omega) hN).mp h) (by omega)) (fun _ => ?_)
      refine lv_aload_n hx hb dJ7_fill_53178_10 rfl (lv_at hl 2 rfl) ?_
      refine lv_iload_n hx hb dJ7_fill_53178_11 rfl (lv_at hl 0 rfl) ?_
      refine lv_iload_n hx hb dJ7_fill_53178_12 rfl (lv_at hl 3 rfl) ?_
      refine va_iast hx hb hK hP hD hS 0 0 rfl rfl (k_in hj32 (by omega) (by omega)) dJ7_fill_53178_13 (fun H1 locs1 hP1 hD1 hS1 => ?_)
      have e1 : upd (fun k => Int32.ofInt (if k < j then -1 else 0)) (Int32.ofInt (j : Int)).toNatClampNeg (-1) = (fun k => Int32.ofInt (if k < j + 1 then -1 else 0)) := by
        rw [k_clamp hj32]
        funext k
        unfold upd
        by_cases h1 : k = j
        · subst h1
          simp
        · have h2 : ¬ k = (j : Int).toNat := by omega
          by_cases h3 : k < j
          · have h4 : k < j + 1 := by omega
            simp [h2, h3, h4, h1]
          · have h4 : ¬ k < j + 1 := by omega
            simp [h2, h3, h4, h1]
      rw [e1] at hP1 hD1
      have hP1 : va_P g.1 kcl (nRow g q N (j + 1)) H1 := hP1
      have hD1 : va_D (va_A (nRow g q N 0) s.heap.size) (nRow g q N (j + 1)) := hD1
      refine lv_iinc (k := 0) (v := Int32.ofInt ((j + 1 : Nat) : Int)) hx hb dJ7_fill_53178_14 hl rfl ?_ (by decide) rfl (fun ls2 hl2 => ?_)
      · rw [← Int32.ofInt_add]
        congr 1
      refine lv_goto (tgt := 5) hx hb dJ7_fill_53178_17 (by decide) ?_
      exact ih (j + 1) (by omega) (by omega) H1 locs1 ls2 hP1 hD1 hS1 hl2
  refine lv_iconst (v := 0) hx hb dJ7_fill_53178_0 rfl ?_
  refine lv_istore_n hx hb dJ7_fill_53178_1 rfl hl (by decide) rfl (fun ls hl => ?_)
  have hl : lv_has ls 4 [(2, .int 0), (0, .ref q), (1, .int (-1))] := hl
  refine lv_aload_n hx hb dJ7_fill_53178_2 rfl (lv_at hl 1 rfl) ?_
  refine va_alen (v := Int32.ofInt (N : Int)) hx hb hK hP 0 0 rfl rfl rfl dJ7_fill_53178_3 ?_
  refine lv_istore_n hx hb dJ7_fill_53178_4 rfl hl (by decide) rfl (fun ls hl => ?_)
  have hl : lv_has ls 4 [(3, .int (Int32.ofInt (N : Int))), (2, .int 0), (0, .ref q), (1, .int (-1))] := hl
  exact loop N 0 (by omega) (by omega) s.heap [] ls hP hD va_S.rf (lv_sub hl [1, 0, 2, 3] rfl)
section NF
variable {M : kM} {B : nB} {k n pc : Nat} {L : List (Nat × Value)} {st : List Value} {ws wr : va_W}
theorem n_callFill {idx q N j : Nat} {isR : List Nat} (C : nC M B) (hN : N < 2147483648) (hd : decode M.1 pc = .ok (.invokestatic idx, 3)) (hl : Cond.methodLink M.2.1 idx yJ7_fill_53178 ∈ kTBL) (hw : kMs yJ7_fill_53178 cJ7_fill_53178 4 none 2) (hR : 1 ≤ M.2.2.2.1.frames ∧ 23 ≤ M.2.2.2.1.locals) (hk : k ≤ M.2.2.2.1.cells ∧ n ≤ M.2.2.2.1.slots)
    (hj : [j].map (fun i => ws[i]?) = (nRow (nGof B) q N 0).map some) (hr : isR.map (fun i => ws[i]?) = wr.map some) (hnd : va_nd isR = true) (hdis : ∀ i ∈ isR, i ∉ [j]) (hst : (st.map fun v => v.category).sum ≤ 8)
    (kk : nW M B k n (pc + 3) L st (wr ++ nRow (nGof B) q N N)) : nW M B k n pc L (.int (-1) :: .ref q :: st) ws := by
  obtain ⟨p, l, e, s, m, args, below, meth, c, Q, g, A, H0⟩ := B
  obtain ⟨hx, hb, hml, hown, hts, hK, hA, hNN, hI⟩ := C
  obtain ⟨hv1, hv2, hv4, hv6, hv7⟩ := hw
  intro H locs ls hP hD hS hll
  have hPc : va_P g.1 kcl (nRow g q N 0) H := hP.sub [j] (by
    have e0 : [j].filterMap (fun i => ws[i]?) = ([j].map (fun i => ws[i]?)).filterMap id := by rw [List.filterMap_map]; rfl
    rw [e0, hj]
    rfl)
  have hDc : va_D A (nRow g q N 0) := hD.sub [j] rfl hj
  have hfr := va_free (wc := nRow g q N 0) hD hS hA [j] hj
  refine va_callv (va_runS (As := [.ref q, .int (-1)]) (rest := st) (own := M.2.1) (Ts := kTBL) (n := 2) (index := idx) ⟨hx, hb, hml, hown, hts⟩ (n_fill l g q N H.size hN) ⟨callB_of 2 hts (kgood_in hv1) rfl rfl rfl (hts _ hv4) (hts _ hl) ⟨hv6.1, hv6.2, hv7⟩ ⟨hR.1, by have := hR.2; show 8 + (4 + 11) + 0 ≤ _; omega⟩, hts _ hv2⟩ ⟨fun a U g' mk q2 => ?_, fun U hU hW => ⟨rfl, by rw [hU], by rw [hU]; exact hPc, va_K.moved hW.alike hK, hDc.weaken (fun _ _ _ _ => trivial)⟩⟩ rfl rfl hll.1 rfl (lv_room hst) hd ⟨hk.1, hk.2⟩) hS (fun q2 _ h => hfr q2 h) hfr (fun u t H1 locs1 ht hvm _ hB hz1 hk1 hS1 => ?_)
  · obtain ⟨q0, q1, qP, qK, qD⟩ := q2
    exact ⟨q0, q1, qP, va_K.moved (u := U) (U := U.calling g' mk a) (Vm.Alike.refl U.vm) qK, qD⟩
  · obtain ⟨b1, b2⟩ := hB
    rw [ht] at b1
    obtain ⟨j1, j2⟩ := va_join (wc := nRow g q N 0) (wr := wr) (w1 := nRow g q N N) hP hD [j] isR hj hr hnd hdis hk1 hfr b1 b2
    exact kk H1 locs1 ls j1 j2 hS1 hll
end NF
