/-! CORE 2: heap, jumps, locals -/
def kFO (v : kV) (ci : Nat) : Option (Nat × List (Nat ⊕ Bool)) := match v with
  | .inr (.inl o) => (match kY[o]? with
    | some (.inl (c, fl)) => if c = ci then some (o, fl) else none
    | _ => none)
  | _ => none
/-- field k of an object of class ci -/
def kget (ci k : Nat) (v : kV) (σ : kS) : Option kV := match kFO v ci with
  | some (o, fl) => (match fl[k]? with
    | some (.inl j) => some (.inr (.inl j))
    | some (.inr false) => some (.inl (σ o k))
    | some (.inr true) => some (.inr (.inr (σ o k)))
    | none => none)
  | none => none
def kput (ci k : Nat) (v : kV) (x : kV) (σ : kS) : Option kS := match kFO v ci with
  | some (o, fl) => (match fl[k]?, x with
    | some (.inr false), .inl z => some (kup σ o k z)
    | some (.inr true), .inr (.inr z) => some (kup σ o k z)
    | _, _ => none)
  | none => none
/-- an array of a kind: its place and length -/
def kFA (v : kV) (kind : Nat) : Option (Nat × Nat) := match v with
  | .inr (.inl o) => (match kY[o]? with
    | some (.inr (c, n)) => if c = kind then some (o, n) else none
    | _ => none)
  | _ => none
def kald (kind : Nat) (v : kV) (i : Int) (σ : kS) : Option kV := match kFA v kind with
  | some (o, n) => if 0 ≤ i ∧ i < n then some (if kind = 2 then .inr (.inr (σ o i.toNat)) else .inl (σ o i.toNat)) else none
  | none => none
def kast (kind : Nat) (v : kV) (i : Int) (x : kV) (σ : kS) : Option kS := match kFA v kind with
  | some (o, n) => if 0 ≤ i ∧ i < n then (match x with
    | .inl z => if kind = 0 ∨ (kind = 1 ∧ (z = 0 ∨ z = 1)) then some (kup σ o i.toNat z) else none
    | .inr (.inr z) => if kind = 2 then some (kup σ o i.toNat z) else none
    | _ => none) else none
  | none => none
theorem kFO_spec {v : kV} {ci o : Nat} {fl : List (Nat ⊕ Bool)} (h : kFO v ci = some (o, fl)) : v = .inr (.inl o) ∧ kY[o]? = some (.inl (ci, fl)) := by
  unfold kFO at h
  split at h
  · rename_i o'
    split at h
    · rename_i c fl' he
      split at h
      · rename_i hc
        simp only [Option.some.injEq, Prod.mk.injEq] at h
        obtain ⟨rfl, rfl⟩ := h
        subst hc
        exact ⟨rfl, he⟩
      · cases h
    · cases h
  · cases h
theorem kFA_spec {v : kV} {kind o n : Nat} (h : kFA v kind = some (o, n)) : v = .inr (.inl o) ∧ kY[o]? = some (.inr (kind, n)) := by
  unfold kFA at h
  split at h
  · rename_i o'
    split at h
    · rename_i c n' he
      split at h
      · rename_i hc
        simp only [Option.some.injEq, Prod.mk.injEq] at h
        obtain ⟨rfl, rfl⟩ := h
        subst hc
        exact ⟨rfl, he⟩
      · cases h
    · cases h
  · cases h
theorem k_in {i : Int} {n : Nat} (h : kR32 i) (h0 : 0 ≤ i) (h1 : i < n) : vp_in (Int32.ofInt i) n := vp_in_iff.mpr ⟨by rw [k_i32 h]; exact h0, by rw [k_i32 h]; exact h1⟩
theorem k_clamp {i : Int} (h : kR32 i) : (Int32.ofInt i).toNatClampNeg = i.toNat := by
  rw [← Int32.toNat_toInt, k_i32 h]
theorem kcell_obj {g : kG} {σ : kS} {o ci : Nat} {fl : List (Nat ⊕ Bool)} : kcell g σ o (.inl (ci, fl)) = .inr (ci, (List.range fl.length).map (fun k => kfv g (σ o k) (fl.getD k (.inr false)))) := rfl
theorem kfs_get {g : kG} {σ : kS} {o k : Nat} {fl : List (Nat ⊕ Bool)} {q : Nat ⊕ Bool} (h : fl[k]? = some q) : ((List.range fl.length).map (fun k => kfv g (σ o k) (fl.getD k (.inr false))))[k]? = some (kfv g (σ o k) q) := by
  have hlt : k < fl.length := (List.getElem?_eq_some_iff.mp h).1
  simp [List.getElem?_map, List.getElem?_range hlt, List.getD, h]
theorem kfs_set {g : kG} {σ : kS} {o k : Nat} {fl : List (Nat ⊕ Bool)} {q : Nat ⊕ Bool} {z : Int} (h : fl[k]? = some q) : ((List.range fl.length).map (fun k => kfv g (σ o k) (fl.getD k (.inr false)))).set k (kfv g z q) = (List.range fl.length).map (fun j => kfv g (kup σ o k z o j) (fl.getD j (.inr false))) := by
  have hlt : k < fl.length := (List.getElem?_eq_some_iff.mp h).1
  apply List.ext_getElem?
  intro j
  by_cases hj : k = j
  · subst hj
    rw [List.getElem?_set_self (by simp; exact hlt)]
    simp [List.getElem?_range hlt, List.getD, h, kup]
  · rw [List.getElem?_set_ne hj]
    by_cases hl : j < fl.length
    · have hne : ¬ j = k := fun q => hj q.symm
      have : kup σ o k z o j = σ o j := by simp [kup, hne]
      simp [List.getElem?_range hl, this]
    · simp [hl]
section KG2
variable {M : kM} {X : kX} {pc : Nat} {L : kL} {st : List kV} {σ : kS}
/-- a getfield: the class by its number in kcl -/
theorem kg_get {ci k idx : Nat} {C : String} {T : u_T} {N : Nat} (hc : kcl[ci]? = some (C, T, N)) (hin : ∀ w ∈ u_ws C T N, w ∈ kTBL) (hk : k < N)
    {ref nm ty : String} (hl : Cond.fieldLink M.2.1 idx ref nm ty ∈ kTBL) (hT : T k = (ref, nm, ty, (T k).2.2.2))
    (CC : kC M X) (hd : decode M.1 pc = .ok (.getfield idx, 3)) {v x : kV} (hg : kget ci k v σ = some x) (kk : kW M X (pc + 3) L (x :: st) σ) : kW M X pc L (v :: st) σ := by
  obtain ⟨p, l, e, s, m, args, below, meth, c, Q, g, A, H0, cells, slots⟩ := X
  obtain ⟨hx, hb, hml, hown, hts, hK, hD, hA, hcs⟩ := CC
  intro H locs ls hP hS hll
  unfold kget at hg
  split at hg
  · rename_i o fl hF
    obtain ⟨rfl, he⟩ := kFO_spec hF
    have hq := kw_get (g := g) (σ := σ) he
    have e1 : (T k).1 = ref := by rw [hT]
    have e2 : (T k).2.1 = nm := by rw [hT]
    have e3 : (T k).2.2.1 = ty := by rw [hT]
    have key : ∀ q, fl[k]? = some q → kcv g x = kfv g (σ o k) q → W p l e M.2.2.2.1 s m args below meth c H locs cells slots Q (F0 m pc ls (.ref (g.2.2 o) :: st.map (kcv g))) := by
      intro q hf hv
      refine va_get (own := M.2.1) (ref := ref) hx hb hts hin hown hK hP o hq hc k hk (by rw [e2, e3]; exact hts _ hl) (fun y h9 => by rw [e1] at h9; exact h9) (kfs_get hf) hd ?_
      rw [← hv]
      exact kk H locs ls hP hS hll
    split at hg <;> first | (cases hg; rename_i j hf; exact key _ hf rfl) | cases hg
    all_goals (rename_i hf; exact key _ hf rfl)
  · cases hg
theorem kg_put {ci k idx : Nat} {C : String} {T : u_T} {N : Nat} {ty0 : Nat → FieldType} (hc : kcl[ci]? = some (C, T, N)) (hin : ∀ w ∈ u_ws C T N, w ∈ kTBL) (hty : ∀ k, k < N → parseFieldDescriptor (T k).2.2.1 = some (ty0 k)) (hnm : ∀ a, a < N → ∀ b, b < N → a ≠ b → (T a).2.1 ≠ (T b).2.1) (hk : k < N)
    {ref nm ty : String} (hl : Cond.fieldLink M.2.1 idx ref nm ty ∈ kTBL) (hT : T k = (ref, nm, ty, false)) (hfl : ∀ (o : Nat) (fl : List (Nat ⊕ Bool)), kY[o]? = some (.inl (ci, fl)) → fl.length = N ∧ (fl[k]? = some (.inr false) → ty0 k = .int) ∧ (fl[k]? = some (.inr true) → ty0 k = .long))
    (CC : kC M X) (hd : decode M.1 pc = .ok (.putfield idx, 3)) {v x : kV} {σ' : kS} (hg : kput ci k v x σ = some σ') (kk : kW M X (pc + 3) L st σ') : kW M X pc L (x :: v :: st) σ := by
  obtain ⟨p, l, e, s, m, args, below, meth, c, Q, g, A, H0, cells, slots⟩ := X
  obtain ⟨hx, hb, hml, hown, hts, hK, hD, hA, hcs⟩ := CC
  intro H locs ls hP hS hll
  unfold kput at hg
  split at hg
  · rename_i o fl hF
    obtain ⟨rfl, he⟩ := kFO_spec hF
    obtain ⟨hlen, hti, htl⟩ := hfl o fl he
    have hq := kw_get (g := g) (σ := σ) he
    have e1 : (T k).1 = ref := by rw [hT]
    have e2 : (T k).2.1 = nm := by rw [hT]
    have e3 : (T k).2.2.1 = ty := by rw [hT]
    have key : ∀ q z, fl[k]? = some q → kcv g x = kfv g z q → narrow (ty0 k) (kfv g z q) = kfv g z q → fits (ty0 k) (kfv g z q) = true → σ' = kup σ o k z → W p l e M.2.2.2.1 s m args below meth c H locs cells slots Q (F0 m pc ls (kcv g x :: .ref (g.2.2 o) :: st.map (kcv g))) := by
      intro q z hf hv hn hfit hs
      rw [hv]
      refine va_put (own := M.2.1) (ref := ref) (ty := ty0 k) hx hb hts hin ty0 hty hnm hown hK hP (hD σ) hS o hq hc k hk (by rw [e2, e3]; exact hts _ hl) (fun y h9 => by rw [e1] at h9; exact h9) (by rw [hT]) (hty k hk) hn hfit (by simp; omega) hd (fun H1 locs1 hP1 hD1 hS1 => ?_)
      rw [kfs_set hf] at hP1
      have hw : (kw g σ).set o (g.2.2 o, kcell g (kup σ o k z) o (.inl (ci, fl))) = kw g (kup σ o k z) := kw_set he (fun a ha => kup_ne ha)
      have hP2 : va_P g.1 kcl (kw g (kup σ o k z)) H1 := by
        rw [← hw]
        exact hP1
      rw [hs] at kk
      exact kk H1 locs1 ls hP2 hS1 hll
    split at hg
    · rename_i hf
      cases hg
      exact key _ _ hf rfl (by rw [hti hf]; rfl) (by rw [hti hf]; rfl) rfl
    · rename_i hf
      cases hg
      exact key _ _ hf rfl (by rw [htl hf]; rfl) (by rw [htl hf]; rfl) rfl
    · cases hg
  · cases hg
theorem kg_iald {v x : kV} {i : Int} (CC : kC M X) (hd : decode M.1 pc = .ok (.iaload, 1)) (hi : kR32 i) (hg : kald 0 v i σ = some x) (kk : kW M X (pc + 1) L (x :: st) σ) : kW M X pc L (.inl i :: v :: st) σ := by
  obtain ⟨p, l, e, s, m, args, below, meth, c, Q, g, A, H0, cells, slots⟩ := X
  obtain ⟨hx, hb, hml, hown, hts, hK, hD, hA, hcs⟩ := CC
  intro H locs ls hP hS hll
  unfold kald at hg
  split at hg
  · rename_i o n hF
    obtain ⟨rfl, he⟩ := kFA_spec hF
    split at hg
    · rename_i hin
      cases hg
      refine va_iald hx hb hK hP o 0 (kw_get (g := g) (σ := σ) he) rfl (k_in hi hin.1 hin.2) hd ?_
      rw [k_clamp hi]
      exact kk H locs ls hP hS hll
    · cases hg
  · cases hg
theorem kg_zald {v x : kV} {i : Int} (CC : kC M X) (hd : decode M.1 pc = .ok (.baload, 1)) (hi : kR32 i) (hg : kald 1 v i σ = some x) (kk : kW M X (pc + 1) L (x :: st) σ) : kW M X pc L (.inl i :: v :: st) σ := by
  obtain ⟨p, l, e, s, m, args, below, meth, c, Q, g, A, H0, cells, slots⟩ := X
  obtain ⟨hx, hb, hml, hown, hts, hK, hD, hA, hcs⟩ := CC
  intro H locs ls hP hS hll
  unfold kald at hg
  split at hg
  · rename_i o n hF
    obtain ⟨rfl, he⟩ := kFA_spec hF
    split at hg
    · rename_i hin
      cases hg
      refine va_zald hx hb hK hP o 1 (kw_get (g := g) (σ := σ) he) rfl (k_in hi hin.1 hin.2) hd ?_
      rw [k_clamp hi]
      exact kk H locs ls hP hS hll
    · cases hg
  · cases hg
theorem kg_lald {v x : kV} {i : Int} (CC : kC M X) (hd : decode M.1 pc = .ok (.laload, 1)) (hi : kR32 i) (hg : kald 2 v i σ = some x) (kk : kW M X (pc + 1) L (x :: st) σ) : kW M X pc L (.inl i :: v :: st) σ := by
  obtain ⟨p, l, e, s, m, args, below, meth, c, Q, g, A, H0, cells, slots⟩ := X
  obtain ⟨hx, hb, hml, hown, hts, hK, hD, hA, hcs⟩ := CC
  intro H locs ls hP hS hll
  unfold kald at hg
  split at hg
  · rename_i o n hF
    obtain ⟨rfl, he⟩ := kFA_spec hF
    split at hg
    · rename_i hin
      cases hg
      refine va_lald hx hb hK hP o 2 (kw_get (g := g) (σ := σ) he) rfl (k_in hi hin.1 hin.2) hd ?_
      rw [k_clamp hi]
      exact kk H locs ls hP hS hll
    · cases hg
  · cases hg
theorem k_upd {σ : kS} {o : Nat} {i : Nat} {z : Int} : upd (fun k => Int32.ofInt (σ o k)) i (Int32.ofInt z) = fun k => Int32.ofInt (kup σ o i z o k) := by
  funext j
  unfold upd kup
  by_cases h : j = i <;> simp [h]
theorem k_updL {σ : kS} {o : Nat} {i : Nat} {z : Int} : vp_updL (fun k => Int64.ofInt (σ o k)) i (Int64.ofInt z) = fun k => Int64.ofInt (kup σ o i z o k) := by
  funext j
  unfold vp_updL kup
  by_cases h : j = i <;> simp [h]
theorem kg_iast {v : kV} {x i : Int} {σ' : kS} (CC : kC M X) (hd : decode M.1 pc = .ok (.iastore, 1)) (hi : kR32 i) (hg : kast 0 v i (.inl x) σ = some σ') (kk : kW M X (pc + 1) L st σ') : kW M X pc L (.inl x :: .inl i :: v :: st) σ := by
  obtain ⟨p, l, e, s, m, args, below, meth, c, Q, g, A, H0, cells, slots⟩ := X
  obtain ⟨hx, hb, hml, hown, hts, hK, hD, hA, hcs⟩ := CC
  intro H locs ls hP hS hll
  unfold kast at hg
  split at hg
  · rename_i o n hF
    obtain ⟨rfl, he⟩ := kFA_spec hF
    split at hg
    · rename_i hin
      simp only [true_or, if_true, Option.some.injEq] at hg
      refine va_iast hx hb hK hP (hD σ) hS o 0 (kw_get (g := g) (σ := σ) he) rfl (k_in hi hin.1 hin.2) hd (fun H1 locs1 hP1 hD1 hS1 => ?_)
      rw [k_clamp hi, k_upd] at hP1
      have hw : (kw g σ).set o (g.2.2 o, kcell g (kup σ o i.toNat x) o (.inr (0, n))) = kw g (kup σ o i.toNat x) := kw_set he (fun a ha => kup_ne ha)
      rw [← hg] at kk
      exact kk H1 locs1 ls (by rw [← hw]; exact hP1) hS1 hll
    · cases hg
  · cases hg
theorem kg_zast {v : kV} {x i : Int} {σ' : kS} (CC : kC M X) (hd : decode M.1 pc = .ok (.bastore, 1)) (hi : kR32 i) (hg : kast 1 v i (.inl x) σ = some σ') (kk : kW M X (pc + 1) L st σ') : kW M X pc L (.inl x :: .inl i :: v :: st) σ := by
  obtain ⟨p, l, e, s, m, args, below, meth, c, Q, g, A, H0, cells, slots⟩ := X
  obtain ⟨hx, hb, hml, hown, hts, hK, hD, hA, hcs⟩ := CC
  intro H locs ls hP hS hll
  unfold kast at hg
  split at hg
  · rename_i o n hF
    obtain ⟨rfl, he⟩ := kFA_spec hF
    split at hg
    · rename_i hin
      simp only [Nat.one_ne_zero, true_and, false_or] at hg
      split at hg
      · rename_i hz
        cases hg
        have hnar : vp_nar .boolean (Int32.ofInt x) = Int32.ofInt x := by
          rcases hz with rfl | rfl <;> rfl
        refine va_zast hx hb hK hP (hD σ) hS o 1 (kw_get (g := g) (σ := σ) he) rfl (k_in hi hin.1 hin.2) hd (fun H1 locs1 hP1 hD1 hS1 => ?_)
        rw [k_clamp hi, hnar, k_upd] at hP1
        have hw : (kw g σ).set o (g.2.2 o, kcell g (kup σ o i.toNat x) o (.inr (1, n))) = kw g (kup σ o i.toNat x) := kw_set he (fun a ha => kup_ne ha)
        exact kk H1 locs1 ls (by rw [← hw]; exact hP1) hS1 hll
      · cases hg
    · cases hg
  · cases hg
theorem kg_last {v : kV} {x i : Int} {σ' : kS} (CC : kC M X) (hd : decode M.1 pc = .ok (.lastore, 1)) (hi : kR32 i) (hg : kast 2 v i (.inr (.inr x)) σ = some σ') (kk : kW M X (pc + 1) L st σ') : kW M X pc L (.inr (.inr x) :: .inl i :: v :: st) σ := by
  obtain ⟨p, l, e, s, m, args, below, meth, c, Q, g, A, H0, cells, slots⟩ := X
  obtain ⟨hx, hb, hml, hown, hts, hK, hD, hA, hcs⟩ := CC
  intro H locs ls hP hS hll
  unfold kast at hg
  split at hg
  · rename_i o n hF
    obtain ⟨rfl, he⟩ := kFA_spec hF
    split at hg
    · rename_i hin
      simp only [if_true, Option.some.injEq] at hg
      refine va_last hx hb hK hP (hD σ) hS o 2 (kw_get (g := g) (σ := σ) he) rfl (k_in hi hin.1 hin.2) hd (fun H1 locs1 hP1 hD1 hS1 => ?_)
      rw [k_clamp hi, k_updL] at hP1
      have hw : (kw g σ).set o (g.2.2 o, kcell g (kup σ o i.toNat x) o (.inr (2, n))) = kw g (kup σ o i.toNat x) := kw_set he (fun a ha => kup_ne ha)
      rw [← hg] at kk
      exact kk H1 locs1 ls (by rw [← hw]; exact hP1) hS1 hll
    · cases hg
  · cases hg
theorem kg_dup {v : kV} (CC : kC M X) (hd : decode M.1 pc = .ok (.dup, 1)) (hv : ∀ z, v ≠ .inr (.inr z)) (kk : kW M X (pc + 1) L (v :: v :: st) σ) : kW M X pc L (v :: st) σ := by
  obtain ⟨p, l, e, s, m, args, below, meth, c, Q, g, A, H0, cells, slots⟩ := X
  obtain ⟨hx, hb, hml, hown, hts, hK, hD, hA, hcs⟩ := CC
  intro H locs ls hP hS hll
  refine lv_dup hx hb hd ?_ (kk H locs ls hP hS hll)
  rcases v with z | o | z
  · rfl
  · rfl
  · exact absurd rfl (hv z)
theorem kg_pop {v : kV} (CC : kC M X) (hd : decode M.1 pc = .ok (.pop, 1)) (hv : ∀ z, v ≠ .inr (.inr z)) (kk : kW M X (pc + 1) L st σ) : kW M X pc L (v :: st) σ := by
  obtain ⟨p, l, e, s, m, args, below, meth, c, Q, g, A, H0, cells, slots⟩ := X
  obtain ⟨hx, hb, hml, hown, hts, hK, hD, hA, hcs⟩ := CC
  intro H locs ls hP hS hll
  refine lv_pop hx hb hd ?_ (kk H locs ls hP hS hll)
  rcases v with z | o | z
  · rfl
  · rfl
  · exact absurd rfl (hv z)
theorem kg_dup2 {o : Nat} {i : Int} (CC : kC M X) (hd : decode M.1 pc = .ok (.dup2, 1)) (kk : kW M X (pc + 1) L (.inl i :: .inr (.inl o) :: .inl i :: .inr (.inl o) :: st) σ) : kW M X pc L (.inl i :: .inr (.inl o) :: st) σ := by
  obtain ⟨p, l, e, s, m, args, below, meth, c, Q, g, A, H0, cells, slots⟩ := X
  obtain ⟨hx, hb, hml, hown, hts, hK, hD, hA, hcs⟩ := CC
  intro H locs ls hP hS hll
  exact lv_dup2_11 hx hb hd rfl rfl (kk H locs ls hP hS hll)
theorem kg_goto {off : Int} {tgt : Nat} (CC : kC M X) (hd : decode M.1 pc = .ok (.goto off, 3)) (ht : (pc : Int) + off = (tgt : Int)) (kk : kW M X tgt L st σ) : kW M X pc L st σ := by
  obtain ⟨p, l, e, s, m, args, below, meth, c, Q, g, A, H0, cells, slots⟩ := X
  obtain ⟨hx, hb, hml, hown, hts, hK, hD, hA, hcs⟩ := CC
  intro H locs ls hP hS hll
  exact lv_goto hx hb hd ht (kk H locs ls hP hS hll)
end KG2
