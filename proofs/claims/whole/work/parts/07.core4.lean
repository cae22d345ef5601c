/-! CORE 4: stores into locals; calls -/
theorem kset_nl {L L' : kL} {i : Nat} {v : kV} (hnl : ∀ z, v ≠ .inr (.inr z)) (h : kset L i v = some L') : (i < L.length ∧ L' = L.set i (some v)) ∨ (L.length = i ∧ L' = L ++ [some v]) := by
  unfold kset at h
  split at h
  · cases h
  · exact absurd rfl (hnl _)
  · split at h
    · rename_i hlt
      split at h
      · cases h
      · cases h; exact Or.inl ⟨hlt, rfl⟩
    · split at h
      · rename_i hl; cases h; exact Or.inr ⟨hl, rfl⟩
      · cases h
theorem kset_l {L L' : kL} {i : Nat} {z : Int} (h : kset L i (.inr (.inr z)) = some L') : (L.length = i ∧ L' = L ++ [some (.inr (.inr z)), none]) ∨ (L[i + 1]? = some none ∧ L' = L.set i (some (.inr (.inr z)))) := by
  unfold kset at h
  split at h
  · cases h
  · rename_i heq
    split at h
    · rename_i hl; cases h; exact Or.inl ⟨hl, rfl⟩
    · split at h
      · rename_i hl; cases h; exact Or.inr ⟨hl, rfl⟩
      · cases h
  · simp_all
theorem kset_pre {L L' : kL} {i : Nat} {v : kV} (h : kset L i v = some L') : ∀ z, L[i - 1]? ≠ some (some (.inr (.inr z))) := by
  intro z hz
  unfold kset at h
  rw [hz] at h
  cases h
theorem kset_spec {L L' : kL} {i : Nat} {v : kV} (h : kset L i v = some L') : (∀ (j : Nat) (w : kV), L'[j]? = some (some w) → (j = i ∧ w = v) ∨ (j ≠ i ∧ L[j]? = some (some w) ∧ ¬ (j + 1 = i ∧ ∃ z, w = .inr (.inr z)) ∧ ((∃ z, v = .inr (.inr z)) → j ≠ i + 1))) := by
  have h1 := kset_pre h
  have no : ∀ (j : Nat) (w : kV), L[j]? = some (some w) → ¬ (j + 1 = i ∧ ∃ z, w = .inr (.inr z)) := by
    rintro j w hj ⟨rfl, z, rfl⟩
    exact h1 z hj
  have hset : ∀ (j : Nat) (w : kV), (L.set i (some v))[j]? = some (some w) → (j = i ∧ w = v) ∨ (j ≠ i ∧ L[j]? = some (some w)) := by
    intro j w hj
    by_cases h2 : j = i
    · subst h2
      rw [List.getElem?_set_self'] at hj
      cases hx : L[j]? with
      | none => rw [hx] at hj; cases hj
      | some q => rw [hx] at hj; simp at hj; exact Or.inl ⟨rfl, hj.symm⟩
    · rw [List.getElem?_set_ne (fun q => h2 q.symm)] at hj
      exact Or.inr ⟨h2, hj⟩
  have happ : ∀ (r : kL) (j : Nat) (w : kV), L.length = i → (r = [] ∨ r = [none]) → (L ++ some v :: r)[j]? = some (some w) → (j = i ∧ w = v) ∨ (j < i ∧ L[j]? = some (some w)) := by
    intro r j w hl hr hj
    by_cases h2 : j < L.length
    · rw [List.getElem?_append_left h2] at hj
      exact Or.inr ⟨by omega, hj⟩
    · rw [List.getElem?_append_right (by omega)] at hj
      rcases hq : j - L.length with _ | _ | n
      · rw [hq] at hj
        simp at hj
        exact Or.inl ⟨by omega, hj.symm⟩
      · rw [hq] at hj
        rcases hr with rfl | rfl <;> simp at hj
      · rw [hq] at hj
        rcases hr with rfl | rfl <;> simp at hj
  intro j w hj
  rcases v with x | o | z
  · rcases kset_nl (fun _ q => by cases q) h with ⟨hl, rfl⟩ | ⟨hl, rfl⟩
    · rcases hset j w hj with q | ⟨q1, q2⟩
      · exact Or.inl q
      · exact Or.inr ⟨q1, q2, no j w q2, fun ⟨z, hz⟩ => by cases hz⟩
    · rcases happ [] j w hl (Or.inl rfl) hj with q | ⟨q1, q2⟩
      · exact Or.inl q
      · exact Or.inr ⟨by omega, q2, no j w q2, fun ⟨z, hz⟩ => by cases hz⟩
  · rcases kset_nl (fun _ q => by cases q) h with ⟨hl, rfl⟩ | ⟨hl, rfl⟩
    · rcases hset j w hj with q | ⟨q1, q2⟩
      · exact Or.inl q
      · exact Or.inr ⟨q1, q2, no j w q2, fun ⟨z, hz⟩ => by cases hz⟩
    · rcases happ [] j w hl (Or.inl rfl) hj with q | ⟨q1, q2⟩
      · exact Or.inl q
      · exact Or.inr ⟨by omega, q2, no j w q2, fun ⟨z, hz⟩ => by cases hz⟩
  · rcases kset_l h with ⟨hl, rfl⟩ | ⟨hl, rfl⟩
    · rcases happ [none] j w hl (Or.inr rfl) hj with q | ⟨q1, q2⟩
      · exact Or.inl q
      · exact Or.inr ⟨by omega, q2, no j w q2, fun _ => by omega⟩
    · rcases hset j w hj with q | ⟨q1, q2⟩
      · exact Or.inl q
      · exact Or.inr ⟨q1, q2, no j w q2, fun _ q => by rw [q, hl] at q2; cases q2⟩
theorem kcv_cat2 {g : kG} {w : kV} (h : (kcv g w).category = 2) : ∃ z, w = .inr (.inr z) := by
  rcases w with z | o | z
  · cases h
  · cases h
  · exact ⟨z, rfl⟩
theorem klh_store {g : kG} {ls : Array Slot} {nL i : Nat} {L L' : kL} {v : kV} (hv : ∀ z, v ≠ .inr (.inr z)) (h : kset L i v = some L') (hl : lv_has ls nL ((i, kcv g v) :: (klist g L).filter (fun q => !(q.1 == i) && !(q.1 + 1 == i && q.2.category == 2)))) : klh g ls nL L' := by
  refine ⟨hl.1, hl.2.1, fun j w hj => ?_⟩
  rcases kset_spec h j w hj with ⟨rfl, rfl⟩ | ⟨h1, h2, h3, -⟩
  · exact hl.2.2 _ List.mem_cons_self
  · refine hl.2.2 (j, kcv g w) (List.mem_cons_of_mem _ (List.mem_filter.mpr ⟨klist_mem h2, ?_⟩))
    simp only [Bool.and_eq_true, Bool.not_eq_true', beq_eq_false_iff_ne, ne_eq, Bool.and_eq_false_iff]
    refine ⟨h1, ?_⟩
    by_cases h4 : j + 1 = i
    · right
      intro h5
      exact h3 ⟨h4, kcv_cat2 h5⟩
    · left
      exact h4
theorem klh_storeL {g : kG} {ls : Array Slot} {nL i : Nat} {L L' : kL} {x : Int} (h : kset L i (.inr (.inr x)) = some L') (hl : lv_has ls nL ((i, kcv g (.inr (.inr x))) :: (klist g L).filter (fun q => !(q.1 == i) && (!(q.1 == i + 1) && !(q.1 + 1 == i && q.2.category == 2))))) : klh g ls nL L' := by
  refine ⟨hl.1, hl.2.1, fun j w hj => ?_⟩
  rcases kset_spec h j w hj with ⟨rfl, rfl⟩ | ⟨h1, h2, h3, h6⟩
  · exact hl.2.2 _ List.mem_cons_self
  · refine hl.2.2 (j, kcv g w) (List.mem_cons_of_mem _ (List.mem_filter.mpr ⟨klist_mem h2, ?_⟩))
    simp only [Bool.and_eq_true, Bool.not_eq_true', beq_eq_false_iff_ne, ne_eq, Bool.and_eq_false_iff]
    refine ⟨h1, h6 ⟨x, rfl⟩, ?_⟩
    by_cases h4 : j + 1 = i
    · right
      intro h5
      exact h3 ⟨h4, kcv_cat2 h5⟩
    · left
      exact h4
theorem kset_vl {L L' : kL} {i : Nat} {v : kV} (h : kset L i v = some L') (hL : kVL L) (hv : kVV v) : kVL L' := by
  intro w hw
  obtain ⟨j, hj⟩ := List.getElem?_of_mem hw
  rcases kset_spec h j w hj with ⟨-, rfl⟩ | ⟨-, h2, -⟩
  · exact hv
  · exact hL w (List.mem_of_getElem? h2)
section KG4
variable {M : kM} {X : kX} {pc : Nat} {L L' : kL} {st : List kV} {σ : kS}
theorem kg_istore_n {i : Fin 4} {x : Int} (CC : kC M X) (hd : decode M.1 pc = .ok (.istore_n i, 1)) (hi : (i : Nat) < M.2.2.1) (hs : kset L i (.inl x) = some L') (kk : kW M X (pc + 1) L' st σ) : kW M X pc L (.inl x :: st) σ := by
  obtain ⟨p, l, e, s, m, args, below, meth, c, Q, g, A, H0, cells, slots⟩ := X
  obtain ⟨hxx, hb, hml, hown, hts, hK, hD, hA, hcs⟩ := CC
  intro H locs ls hP hS hll
  exact lv_istore_n hxx hb hd rfl (klist_has hll) hi rfl (fun ls' hl' => kk H locs ls' hP hS (klh_store (fun _ q => by cases q) hs hl'))
theorem kg_istore {i : Nat} {x : Int} (CC : kC M X) (hd : decode M.1 pc = .ok (.istore i, 2)) (hi : i < M.2.2.1) (hs : kset L i (.inl x) = some L') (kk : kW M X (pc + 2) L' st σ) : kW M X pc L (.inl x :: st) σ := by
  obtain ⟨p, l, e, s, m, args, below, meth, c, Q, g, A, H0, cells, slots⟩ := X
  obtain ⟨hxx, hb, hml, hown, hts, hK, hD, hA, hcs⟩ := CC
  intro H locs ls hP hS hll
  exact lv_istore hxx hb hd (klist_has hll) hi rfl (fun ls' hl' => kk H locs ls' hP hS (klh_store (fun _ q => by cases q) hs hl'))
theorem kg_astore_n {i : Fin 4} {o : Nat} (CC : kC M X) (hd : decode M.1 pc = .ok (.astore_n i, 1)) (hi : (i : Nat) < M.2.2.1) (hs : kset L i (.inr (.inl o)) = some L') (kk : kW M X (pc + 1) L' st σ) : kW M X pc L (.inr (.inl o) :: st) σ := by
  obtain ⟨p, l, e, s, m, args, below, meth, c, Q, g, A, H0, cells, slots⟩ := X
  obtain ⟨hxx, hb, hml, hown, hts, hK, hD, hA, hcs⟩ := CC
  intro H locs ls hP hS hll
  exact lv_astore_n hxx hb hd rfl (klist_has hll) hi rfl (fun ls' hl' => kk H locs ls' hP hS (klh_store (fun _ q => by cases q) hs hl'))
theorem kg_astore {i : Nat} {o : Nat} (CC : kC M X) (hd : decode M.1 pc = .ok (.astore i, 2)) (hi : i < M.2.2.1) (hs : kset L i (.inr (.inl o)) = some L') (kk : kW M X (pc + 2) L' st σ) : kW M X pc L (.inr (.inl o) :: st) σ := by
  obtain ⟨p, l, e, s, m, args, below, meth, c, Q, g, A, H0, cells, slots⟩ := X
  obtain ⟨hxx, hb, hml, hown, hts, hK, hD, hA, hcs⟩ := CC
  intro H locs ls hP hS hll
  exact lv_astore hxx hb hd (klist_has hll) hi rfl (fun ls' hl' => kk H locs ls' hP hS (klh_store (fun _ q => by cases q) hs hl'))
theorem kg_lstore_n {i : Fin 4} {x : Int} (CC : kC M X) (hd : decode M.1 pc = .ok (.lstore_n i, 1)) (hi : (i : Nat) + 1 < M.2.2.1) (hs : kset L i (.inr (.inr x)) = some L') (kk : kW M X (pc + 1) L' st σ) : kW M X pc L (.inr (.inr x) :: st) σ := by
  obtain ⟨p, l, e, s, m, args, below, meth, c, Q, g, A, H0, cells, slots⟩ := X
  obtain ⟨hxx, hb, hml, hown, hts, hK, hD, hA, hcs⟩ := CC
  intro H locs ls hP hS hll
  exact lv_lstore_n hxx hb hd rfl (klist_has hll) hi rfl (fun ls' hl' => kk H locs ls' hP hS (klh_storeL hs hl'))
theorem kg_iinc {i : Nat} {n x : Int} (CC : kC M X) (hd : decode M.1 pc = .ok (.iinc i n, 3)) (hi : i < M.2.2.1) (hx : L[i]? = some (some (.inl x))) (hs : kset L i (.inl (x + n)) = some L') (kk : kW M X (pc + 3) L' st σ) : kW M X pc L st σ := by
  obtain ⟨p, l, e, s, m, args, below, meth, c, Q, g, A, H0, cells, slots⟩ := X
  obtain ⟨hxx, hb, hml, hown, hts, hK, hD, hA, hcs⟩ := CC
  intro H locs ls hP hS hll
  obtain ⟨k, hk⟩ := List.getElem?_of_mem (klist_mem (g := g) hx)
  exact lv_iinc (v := Int32.ofInt (x + n)) hxx hb hd (klist_has hll) hk (by rw [Int32.ofInt_add]) hi rfl (fun ls' hl' => kk H locs ls' hP hS (klh_store (v := .inl (x + n)) (fun _ q => by cases q) hs hl'))
end KG4
/-- a method that returns: on every state on which F says what it answers -/
def kCon (y : MethodName) (cc : ByteArray) (nL : Nat) (ret : Option FieldType) (rm : Room) (F : List kV → kS → Option (Option kV × kS)) : Prop :=
  ∀ (av : List kV) (σ : kS) (r : Option kV) (σ' : kS), kVS σ → (∀ v ∈ av, kVV v) → F av σ = some (r, σ') →
    (∀ v, r = some v → kVV v) ∧ kVS σ' ∧ ∀ (l : Launch) (g : kG) (sz : Nat),
    Met l y (.code y cc nL ret :: kTBL) rm (va_Pc (av.map (kcv g)) (fun U => U.heap.size = sz ∧ va_P g.1 kcl (kw g σ) U.heap ∧ va_K g.1 kcl (ktys g) U ∧ va_D (fun _ => True) (kw g σ) ∧ kNest U))
      (fun _ st oc t => (oc = .returned (r.map (kcv g)) ∧ va_P g.1 kcl (kw g σ') t.heap) ∧ va_F (va_A (kw g σ) sz) st t) 0 0 (va_A (kw g σ) sz)
theorem kAw {g : kG} {σ σ' : kS} {sz q : Nat} (h : va_A (kw g σ) sz q) : va_A (kw g σ') sz q := by
  rcases h with ⟨k, e, h⟩ | h
  · left
    refine ⟨k, ?_⟩
    unfold kw at h ⊢
    rw [List.getElem?_map] at h ⊢
    cases hr : (List.range kY.length)[k]? with
    | none => rw [hr] at h; cases h
    | some j =>
      rw [hr] at h
      simp only [Option.map_some, Option.some.injEq, Prod.mk.injEq] at h ⊢
      exact ⟨_, h.1, rfl⟩
  · exact Or.inr h
theorem kD_of {g : kG} {σ σ' : kS} {A : Nat → Prop} (h : va_D A (kw g σ)) : va_D A (kw g σ') := by
  have get : ∀ (σ : kS) (i : Nat) (q : Nat × va_E), (kw g σ)[i]? = some q → ∀ σ2 : kS, ∃ q2 : Nat × va_E, (kw g σ2)[i]? = some q2 ∧ q2.1 = q.1 := by
    intro σ i q hq σ2
    unfold kw at hq ⊢
    rw [List.getElem?_map] at hq ⊢
    cases hr : (List.range kY.length)[i]? with
    | none => rw [hr] at hq; cases hq
    | some j =>
      rw [hr] at hq
      simp only [Option.map_some, Option.some.injEq] at hq ⊢
      exact ⟨_, rfl, by rw [← hq]⟩
  refine ⟨fun i j p q hp hq hpq => ?_, fun k q hq => ?_⟩
  · obtain ⟨p2, hp2, e1⟩ := get σ' i p hp σ
    obtain ⟨q2, hq2, e2⟩ := get σ' j q hq σ
    exact h.1 i j p2 q2 hp2 hq2 (by rw [e1, e2]; exact hpq)
  · obtain ⟨q2, hq2, e2⟩ := get σ' k q hq σ
    rw [← e2]
    exact h.2 k q2 hq2
theorem kgood_in {y : MethodName} {cc : ByteArray} {nL : Nat} {ret : Option FieldType} (h : Cond.code y cc nL ret ∈ kTBL) : GoodIn kTBL (.code y cc nL ret :: kTBL) := by
  intro w hw
  rcases List.mem_cons.mp hw with rfl | hw
  · exact ⟨h, good_of_word (kTBL_good h)⟩
  · exact ⟨hw, good_of_word (kTBL_good hw)⟩
/-- a call from its run: the state behind it is the callee's -/
theorem k_after {p : Program} {l : Launch} {e : Env} {R : Room} {s : State} {m : MethodId} {args : Array Value} {below : List Frame} {meth : Method} {c : Code} {H : Heap} {locs : List Loc} {cells slots : Nat} {Q : State → Prop} {pc : Nat} {ls : Array Slot} {st0 rest : List Value} {a : Array Value} {A0 : Nat → Prop} {H0 : Heap} {g : kG} {σ σ' : kS} {r : Option kV}
    (hr : va_Run p l e R s m args below meth c H locs cells slots 0 0 (F0 m pc ls st0) rest ((fun _ st oc t => (oc = .returned (r.map (kcv g)) ∧ va_P g.1 kcl (kw g σ') t.heap) ∧ va_F (va_A (kw g σ) H.size) st t : Array Value → State → Outcome → State → Prop) a) (va_A (kw g σ) H.size))
    (hS : va_S A0 H0 H locs) (hA : ∀ q, va_A (kw g σ) H.size q → A0 q)
    (kk : ∀ (H1 : Heap) (locs1 : List Loc), va_P g.1 kcl (kw g σ') H1 → va_S A0 H0 H1 locs1 → W p l e R s m args below meth c H1 locs1 cells slots Q (F0 m (pc + 3) ls ((r.map (kcv g)).toList ++ rest))) : W p l e R s m args below meth c H locs cells slots Q (F0 m pc ls st0) := by
  intro T hT X
  obtain ⟨v, st₀, t, T', L, h0, X', hL, e1, e2, ⟨⟨hv, hp⟩, hz, hk⟩, st⟩ := hr T hT X
  cases hv
  rw [h0] at hz hk
  obtain ⟨t2, a1, b1⟩ := kk T'.heap (locs ++ L) (by rw [e1]; exact hp)
    ⟨Nat.le_trans hS.1 (by rw [e1]; exact hz), fun q h1 h2 => by rw [e1, hk q (Nat.lt_of_lt_of_le h1 hS.1) (fun z => h2 (hA q z))]; exact hS.2.1 q h1 h2, fun q hq => by
      rcases List.mem_append.mp hq with h | h
      · exact hS.2.2 q h
      · exact hA _ (hL q h)⟩ T' rfl X'
  exact ⟨t2, st t2 a1, b1⟩
theorem k_weight {g : kG} {st : List kV} (h : st.length ≤ 4) : ((st.map (kcv g)).map fun v => v.category).sum ≤ 8 := by
  have : ∀ st : List kV, ((st.map (kcv g)).map fun v => v.category).sum ≤ 2 * st.length := by
    intro st
    induction st with
    | nil => simp
    | cons v t ih =>
      have hv : (kcv g v).category ≤ 2 := by rcases lv_cat (kcv g v) with h | h <;> omega
      simp only [List.map_cons, List.sum_cons, List.length_cons]
      omega
  have := this st
  omega
