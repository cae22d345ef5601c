/-! CORE 3: comparisons, stores into locals, calls -/
def kcmp (op : Nat) (x y : Int) : Bool := match op with
  | 0 => decide (x = y)
  | 1 => decide (x ≠ y)
  | 2 => decide (x < y)
  | 3 => decide (y ≤ x)
  | 4 => decide (y < x)
  | _ => decide (x ≤ y)
theorem k_eq {x y : Int} (hx : kR32 x) (hy : kR32 y) : Int32.ofInt x = Int32.ofInt y ↔ x = y := by rw [← Int32.toInt_inj, k_i32 hx, k_i32 hy]
theorem k_lt {x y : Int} (hx : kR32 x) (hy : kR32 y) : Int32.ofInt x < Int32.ofInt y ↔ x < y := by rw [Int32.lt_iff_toInt_lt, k_i32 hx, k_i32 hy]
theorem k_le {x y : Int} (hx : kR32 x) (hy : kR32 y) : Int32.ofInt x ≤ Int32.ofInt y ↔ x ≤ y := by rw [Int32.le_iff_toInt_le, k_i32 hx, k_i32 hy]
theorem k_z32 : kR32 0 := by unfold kR32; omega
theorem k_ofz : Int32.ofInt 0 = 0 := rfl
section KG3
variable {M : kM} {X : kX} {pc : Nat} {L : kL} {st : List kV} {σ : kS}
theorem kg_icmp_eq {x y off : Int} {tgt : Nat} (CC : kC M X) (hx : kR32 x) (hy : kR32 y) (hd : decode M.1 pc = .ok (.if_icmp .eq off, 3)) (ht : (pc : Int) + off = (tgt : Int)) (kk : kW M X (if kcmp 0 x y then tgt else pc + 3) L st σ) : kW M X pc L (.inl y :: .inl x :: st) σ := by
  obtain ⟨p, l, e, s, m, args, below, meth, c, Q, g, A, H0, cells, slots⟩ := X
  obtain ⟨hxx, hb, hml, hown, hts, hK, hD, hA, hcs⟩ := CC
  intro H locs ls hP hS hll
  have := kk H locs ls hP hS hll
  refine lv_icmp_eq hxx hb hd ht (fun h => ?_) (fun h => ?_) <;> rw [k_eq hx hy] at h <;> simpa [kcmp, h] using this
theorem kg_icmp_ne {x y off : Int} {tgt : Nat} (CC : kC M X) (hx : kR32 x) (hy : kR32 y) (hd : decode M.1 pc = .ok (.if_icmp .ne off, 3)) (ht : (pc : Int) + off = (tgt : Int)) (kk : kW M X (if kcmp 1 x y then tgt else pc + 3) L st σ) : kW M X pc L (.inl y :: .inl x :: st) σ := by
  obtain ⟨p, l, e, s, m, args, below, meth, c, Q, g, A, H0, cells, slots⟩ := X
  obtain ⟨hxx, hb, hml, hown, hts, hK, hD, hA, hcs⟩ := CC
  intro H locs ls hP hS hll
  have := kk H locs ls hP hS hll
  refine lv_icmp_ne hxx hb hd ht (fun h => ?_) (fun h => ?_) <;> rw [k_eq hx hy] at h <;> simpa [kcmp, h] using this
theorem kg_icmp_lt {x y off : Int} {tgt : Nat} (CC : kC M X) (hx : kR32 x) (hy : kR32 y) (hd : decode M.1 pc = .ok (.if_icmp .lt off, 3)) (ht : (pc : Int) + off = (tgt : Int)) (kk : kW M X (if kcmp 2 x y then tgt else pc + 3) L st σ) : kW M X pc L (.inl y :: .inl x :: st) σ := by
  obtain ⟨p, l, e, s, m, args, below, meth, c, Q, g, A, H0, cells, slots⟩ := X
  obtain ⟨hxx, hb, hml, hown, hts, hK, hD, hA, hcs⟩ := CC
  intro H locs ls hP hS hll
  have := kk H locs ls hP hS hll
  refine lv_icmp_lt hxx hb hd ht (fun h => ?_) (fun h => ?_) <;> rw [k_lt hx hy] at h <;> simpa [kcmp, h] using this
theorem kg_icmp_ge {x y off : Int} {tgt : Nat} (CC : kC M X) (hx : kR32 x) (hy : kR32 y) (hd : decode M.1 pc = .ok (.if_icmp .ge off, 3)) (ht : (pc : Int) + off = (tgt : Int)) (kk : kW M X (if kcmp 3 x y then tgt else pc + 3) L st σ) : kW M X pc L (.inl y :: .inl x :: st) σ := by
  obtain ⟨p, l, e, s, m, args, below, meth, c, Q, g, A, H0, cells, slots⟩ := X
  obtain ⟨hxx, hb, hml, hown, hts, hK, hD, hA, hcs⟩ := CC
  intro H locs ls hP hS hll
  have := kk H locs ls hP hS hll
  refine lv_icmp_ge hxx hb hd ht (fun h => ?_) (fun h => ?_) <;> simp only [ge_iff_le, k_le hy hx] at h <;> simpa [kcmp, h] using this
theorem kg_icmp_gt {x y off : Int} {tgt : Nat} (CC : kC M X) (hx : kR32 x) (hy : kR32 y) (hd : decode M.1 pc = .ok (.if_icmp .gt off, 3)) (ht : (pc : Int) + off = (tgt : Int)) (kk : kW M X (if kcmp 4 x y then tgt else pc + 3) L st σ) : kW M X pc L (.inl y :: .inl x :: st) σ := by
  obtain ⟨p, l, e, s, m, args, below, meth, c, Q, g, A, H0, cells, slots⟩ := X
  obtain ⟨hxx, hb, hml, hown, hts, hK, hD, hA, hcs⟩ := CC
  intro H locs ls hP hS hll
  have := kk H locs ls hP hS hll
  refine lv_icmp_gt hxx hb hd ht (fun h => ?_) (fun h => ?_) <;> simp only [gt_iff_lt, k_lt hy hx] at h <;> simpa [kcmp, h] using this
theorem kg_icmp_le {x y off : Int} {tgt : Nat} (CC : kC M X) (hx : kR32 x) (hy : kR32 y) (hd : decode M.1 pc = .ok (.if_icmp .le off, 3)) (ht : (pc : Int) + off = (tgt : Int)) (kk : kW M X (if kcmp 5 x y then tgt else pc + 3) L st σ) : kW M X pc L (.inl y :: .inl x :: st) σ := by
  obtain ⟨p, l, e, s, m, args, below, meth, c, Q, g, A, H0, cells, slots⟩ := X
  obtain ⟨hxx, hb, hml, hown, hts, hK, hD, hA, hcs⟩ := CC
  intro H locs ls hP hS hll
  have := kk H locs ls hP hS hll
  refine lv_icmp_le hxx hb hd ht (fun h => ?_) (fun h => ?_) <;> rw [k_le hx hy] at h <;> simpa [kcmp, h] using this
theorem kg_if_eq {x off : Int} {tgt : Nat} (CC : kC M X) (hx : kR32 x) (hd : decode M.1 pc = .ok (.ifCond .eq off, 3)) (ht : (pc : Int) + off = (tgt : Int)) (kk : kW M X (if kcmp 0 x 0 then tgt else pc + 3) L st σ) : kW M X pc L (.inl x :: st) σ := by
  obtain ⟨p, l, e, s, m, args, below, meth, c, Q, g, A, H0, cells, slots⟩ := X
  obtain ⟨hxx, hb, hml, hown, hts, hK, hD, hA, hcs⟩ := CC
  intro H locs ls hP hS hll
  have := kk H locs ls hP hS hll
  refine lv_if_eq hxx hb hd ht (fun h => ?_) (fun h => ?_) <;> rw [← k_ofz, k_eq hx k_z32] at h <;> simpa [kcmp, h] using this
theorem kg_if_ne {x off : Int} {tgt : Nat} (CC : kC M X) (hx : kR32 x) (hd : decode M.1 pc = .ok (.ifCond .ne off, 3)) (ht : (pc : Int) + off = (tgt : Int)) (kk : kW M X (if kcmp 1 x 0 then tgt else pc + 3) L st σ) : kW M X pc L (.inl x :: st) σ := by
  obtain ⟨p, l, e, s, m, args, below, meth, c, Q, g, A, H0, cells, slots⟩ := X
  obtain ⟨hxx, hb, hml, hown, hts, hK, hD, hA, hcs⟩ := CC
  intro H locs ls hP hS hll
  have := kk H locs ls hP hS hll
  refine lv_if_ne hxx hb hd ht (fun h => ?_) (fun h => ?_) <;> rw [← k_ofz, k_eq hx k_z32] at h <;> simpa [kcmp, h] using this
theorem kg_if_lt {x off : Int} {tgt : Nat} (CC : kC M X) (hx : kR32 x) (hd : decode M.1 pc = .ok (.ifCond .lt off, 3)) (ht : (pc : Int) + off = (tgt : Int)) (kk : kW M X (if kcmp 2 x 0 then tgt else pc + 3) L st σ) : kW M X pc L (.inl x :: st) σ := by
  obtain ⟨p, l, e, s, m, args, below, meth, c, Q, g, A, H0, cells, slots⟩ := X
  obtain ⟨hxx, hb, hml, hown, hts, hK, hD, hA, hcs⟩ := CC
  intro H locs ls hP hS hll
  have := kk H locs ls hP hS hll
  refine lv_if_lt hxx hb hd ht (fun h => ?_) (fun h => ?_) <;> rw [← k_ofz, k_lt hx k_z32] at h <;> simpa [kcmp, h] using this
theorem kg_if_ge {x off : Int} {tgt : Nat} (CC : kC M X) (hx : kR32 x) (hd : decode M.1 pc = .ok (.ifCond .ge off, 3)) (ht : (pc : Int) + off = (tgt : Int)) (kk : kW M X (if kcmp 3 x 0 then tgt else pc + 3) L st σ) : kW M X pc L (.inl x :: st) σ := by
  obtain ⟨p, l, e, s, m, args, below, meth, c, Q, g, A, H0, cells, slots⟩ := X
  obtain ⟨hxx, hb, hml, hown, hts, hK, hD, hA, hcs⟩ := CC
  intro H locs ls hP hS hll
  have := kk H locs ls hP hS hll
  refine lv_if_ge hxx hb hd ht (fun h => ?_) (fun h => ?_) <;> simp only [ge_iff_le, ← k_ofz, k_le k_z32 hx] at h <;> simpa [kcmp, h] using this
theorem kg_if_gt {x off : Int} {tgt : Nat} (CC : kC M X) (hx : kR32 x) (hd : decode M.1 pc = .ok (.ifCond .gt off, 3)) (ht : (pc : Int) + off = (tgt : Int)) (kk : kW M X (if kcmp 4 x 0 then tgt else pc + 3) L st σ) : kW M X pc L (.inl x :: st) σ := by
  obtain ⟨p, l, e, s, m, args, below, meth, c, Q, g, A, H0, cells, slots⟩ := X
  obtain ⟨hxx, hb, hml, hown, hts, hK, hD, hA, hcs⟩ := CC
  intro H locs ls hP hS hll
  have := kk H locs ls hP hS hll
  refine lv_if_gt hxx hb hd ht (fun h => ?_) (fun h => ?_) <;> simp only [gt_iff_lt, ← k_ofz, k_lt k_z32 hx] at h <;> simpa [kcmp, h] using this
theorem kg_if_le {x off : Int} {tgt : Nat} (CC : kC M X) (hx : kR32 x) (hd : decode M.1 pc = .ok (.ifCond .le off, 3)) (ht : (pc : Int) + off = (tgt : Int)) (kk : kW M X (if kcmp 5 x 0 then tgt else pc + 3) L st σ) : kW M X pc L (.inl x :: st) σ := by
  obtain ⟨p, l, e, s, m, args, below, meth, c, Q, g, A, H0, cells, slots⟩ := X
  obtain ⟨hxx, hb, hml, hown, hts, hK, hD, hA, hcs⟩ := CC
  intro H locs ls hP hS hll
  have := kk H locs ls hP hS hll
  refine lv_if_le hxx hb hd ht (fun h => ?_) (fun h => ?_) <;> rw [← k_ofz, k_le hx k_z32] at h <;> simpa [kcmp, h] using this
/-- a local's new value; a long's second half is nothing -/
def kset (L : kL) (i : Nat) (v : kV) : Option kL := match L[i - 1]?, v with
  | some (some (.inr (.inr _))), _ => none
  | _, .inr (.inr _) => if L.length = i then some (L ++ [some v, none]) else if L[i + 1]? = some none then some (L.set i (some v)) else none
  | _, _ => if i < L.length then (match L[i]? with
      | some (some (.inr (.inr _))) => none
      | _ => some (L.set i (some v))) else if L.length = i then some (L ++ [some v]) else none
end KG3
/-- the locals' list as the kit has it -/
def klist (g : kG) (L : kL) : List (Nat × Value) := (List.range L.length).filterMap (fun i => match L[i]? with
  | some (some v) => some (i, kcv g v)
  | _ => none)
theorem klist_has {g : kG} {ls : Array Slot} {nL : Nat} {L : kL} (h : klh g ls nL L) : lv_has ls nL (klist g L) := by
  refine ⟨h.1, h.2.1, fun q hq => ?_⟩
  obtain ⟨i, -, hi⟩ := List.mem_filterMap.mp hq
  split at hi
  · rename_i v hv
    cases hi
    exact h.2.2 _ _ hv
  · cases hi
theorem klist_mem {g : kG} {L : kL} {i : Nat} {v : kV} (h : L[i]? = some (some v)) : (i, kcv g v) ∈ klist g L :=
  List.mem_filterMap.mpr ⟨i, List.mem_range.mpr (List.getElem?_eq_some_iff.mp h).1, by rw [h]⟩
