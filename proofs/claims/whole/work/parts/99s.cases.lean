/-! THE LAW 2: one round of its loop (printed by gen6.py) -/
abbrev MLw : kM := (cL_law, yL_law.cls, 7, room_1, some .boolean)
abbrev L5 (n : Nat) : kL := [some (.inr (.inl 111)), some (.inr (.inl 0)), some (.inr (.inl 14)), some (.inr (.inl 110)), some (.inl (n : Int))]
abbrev L6 (n : Nat) (k : Int) : kL := [some (.inr (.inl 111)), some (.inr (.inl 0)), some (.inr (.inl 14)), some (.inr (.inl 110)), some (.inl (n : Int)), some (.inl k)]
abbrev L7 (n : Nat) (k v : Int) : kL := [some (.inr (.inl 111)), some (.inr (.inl 0)), some (.inr (.inl 14)), some (.inr (.inl 110)), some (.inl (n : Int)), some (.inl k), some (.inl v)]
theorem kW_t {M : kM} {X : kX} {q : Bool} {a b : Nat} {L : kL} {st : List kV} {σ : kS} (h : q = true) (kk : kW M X a L st σ) : kW M X (if q then a else b) L st σ := by
  rw [if_pos h]; exact kk
theorem kW_f {M : kM} {X : kX} {q : Bool} {a b : Nat} {L : kL} {st : List kV} {σ : kS} (h : q = false) (kk : kW M X b L st σ) : kW M X (if q then a else b) L st σ := by
  rw [if_neg (by rw [h]; decide)]; exact kk
theorem kR_i32 (f : Int32) : kR32 f.toInt := ⟨Int32.le_toInt f, Int32.toInt_lt f⟩
theorem kVV_r {o : Nat} : ∀ v ∈ ([.inr (.inl o)] : List kV), kVV v := fun v hv => by rw [List.mem_singleton.mp hv]; trivial
theorem mdThrown_eq {σ : kS} : F_Md_thrown [.inr (.inl 14)] σ = some (some (.inl (σ 14 22)), σ) := by
  have h : wpF F_Md_thrown [.inr (.inl 14)] σ (fun r s => r = some (.inl (σ 14 22)) ∧ s = σ) := by
    unfold F_Md_thrown
    rw [wpF_kF]
    refine ⟨rfl, rfl, ?_⟩
    unfold s_Md_thrown
    simp only [List.map_cons, List.map_nil]
    refine wpS_gen (fun Q1 hQ1 => ?_)
    simp only [wpS_skip, wpS_break, wpS_cont, wpS_retV, wpS_throw, wpS_seq, wpS_if, wpS_trunc, yS_let, yS_inc, kgK_i, kgK_r, kok_nil, kok_i0, kok_is, kok_r0, kok_rs, kok_n0, kok_ns, xS_put, xS_putOp, xS_ast0, xS_ast1, xS_astOp, wpS_E, wpS_call, wpS_callS, wpS_ret, kThen_N, kThen_B, kThen_C, kThen_R, kThen_T, kNext_N, kNext_C, kNext_B, kNext_R, wpE_K, wpE_KL, xE_I, xE_R, wpE_J, xE_bin, wpE_ladd, wpE_i2l, xE_get, xE_ald0, xE_ald1, wpE_if, xE_max, xE_min, wpE_len, wpA_nil, wpA_snoc, xE_call, xE_callS, xC_C, xC_L, xC_Z, wpC_and, wpC_or, wpC_not, wpC_if, kcmp_0, kcmp_1, kcmp_2, kcmp_3, kcmp_4, kcmp_5, rR_inj, kgO_some, kgO_add, kgO_sub, kgO_mul, kgO_div, kgO_rem, kgO_and, kvI_inl, kvJ_inl, kgI_0, kgI_s, kgR_0, kgR_s, kst_nil, kst_0, kst_s, kNLl_nil, kNLl_i, kNLl_r, kNLl_n, ktag_i, ktag_r, List.length_cons, List.length_nil, List.take_succ_cons, List.take_zero, List.take_nil, List.nil_append, List.cons_append, decide_eq_true_eq, Bool.not_eq_true, Bool.not_eq_true', decide_eq_false_iff_not, ne_eq, Decidable.not_not, true_and, and_true, Nat.reduceAdd, Nat.reduceLeDiff, Nat.reduceEqDiff, Nat.le_refl, not_true_eq_false, not_false_eq_true, reduceIte, eq_self, Int.reduceNeg, Int.reduceEq, Int.reduceLT, Int.reduceLE, Nat.zero_le, Nat.one_ne_zero, ev_model, ev_model_arr]
    rw [hQ1]
    exact ⟨_, rfl, rfl, rfl, rfl⟩
  obtain ⟨r, s, h1, rfl, rfl⟩ := h
  exact h1
theorem kcmp_self {v : Int} : kcmp 0 (kcmp3 v v) 0 = true := by
  rw [kcmp3_op]
  exact decide_eq_true rfl
set_option maxRecDepth 20000 in
theorem mvm_thrown : kMv yX12_thrown cX12_thrown 1 (some .int) 12 0 := ⟨(ktb6 129 (by decide +kernel) (by decide +kernel)), (ktb6 127 (by decide +kernel) (by decide +kernel)), (ktb6 128 (by decide +kernel) (by decide +kernel)), (ktb1 14 (by decide +kernel) (by decide +kernel)), ⟨_, _, rfl⟩, ⟨by decide +kernel, by decide +kernel⟩, by decide +kernel⟩
theorem lml_88 : Cond.methodLink RL 88 yX12_thrown ∈ kTBL := (ktb6 126 (by decide +kernel) (by decide +kernel))
section TL
variable {X : kX} {pT n : Nat} {k v off : Int} {σ : kS}
theorem kTail (CC : kC MLw X) (hS : kVS σ) (hk : kR32 k) (e22 : σ 14 22 = k) (d0 : decode cL_law pT = .ok (.aload_n 2, 1)) (d1 : decode cL_law (pT + 1) = .ok (.invokevirtual 88, 3)) (d4 : decode cL_law (pT + 4) = .ok (.iload 5, 2)) (d6 : decode cL_law (pT + 6) = .ok (.if_icmp .eq 5, 3)) (d11 : decode cL_law (pT + 11) = .ok (.iload 5, 2))
    (kk : kW MLw X (pT + 13) (L7 n k v) [.inl k] σ) : kW MLw X pT (L7 n k v) [] σ := by
  obtain ⟨-, -, h3⟩ := kg_callV (M := MLw) (pc := pT + 1) (L := L7 n k v) (st := []) c_Md_thrown mvm_thrown lml_88 ⟨rfl, rfl, Nat.le_of_ble_eq_true rfl, Nat.le_of_ble_eq_true rfl⟩ d1 (by decide) rfl kVV_r hS rfl mdThrown_eq
  refine kg_aload_n CC d0 rfl (h3 X CC ?_)
  rw [e22]
  refine kg_iload CC d4 rfl ?_
  refine kg_icmp_eq (tgt := pT + 11) CC hk hk d6 (by omega) (kW_t (decide_eq_true rfl) ?_)
  exact kg_iload CC d11 rfl kk
theorem kTailI (CC : kC MLw X) (hS : kVS σ) (hk : kR32 k) (hv : kR32 v) (e22 : σ 14 22 = k) (e110 : k = 0 → σ 110 0 = v) (d0 : decode cL_law pT = .ok (.aload_n 2, 1)) (d1 : decode cL_law (pT + 1) = .ok (.invokevirtual 88, 3)) (d4 : decode cL_law (pT + 4) = .ok (.iload 5, 2)) (d6 : decode cL_law (pT + 6) = .ok (.if_icmp .eq 5, 3)) (d11 : decode cL_law (pT + 11) = .ok (.iload 5, 2))
    (d13 : decode cL_law (pT + 13) = .ok (.ifCond .ne 15, 3)) (d16 : decode cL_law (pT + 16) = .ok (.aload_n 3, 1)) (d17 : decode cL_law (pT + 17) = .ok (.iconst 0, 1)) (d18 : decode cL_law (pT + 18) = .ok (.laload, 1)) (d19 : decode cL_law (pT + 19) = .ok (.iload 6, 2)) (d21 : decode cL_law (pT + 21) = .ok (.i2l, 1)) (d22 : decode cL_law (pT + 22) = .ok (.lcmp, 1)) (d23 : decode cL_law (pT + 23) = .ok (.ifCond .eq 5, 3)) (d28 : decode cL_law (pT + 28) = .ok (.goto off, 3)) (ht : ((pT + 28 : Nat) : Int) + off = ((1304 : Nat) : Int))
    (kk : kW MLw X 1304 (L5 n) [] σ) : kW MLw X pT (L7 n k v) [] σ := by
  have e0 : kW MLw X (pT + 28) (L7 n k v) [] σ := kg_goto CC d28 ht (kW_take (k := 5) kk)
  refine kTail CC hS hk e22 d0 d1 d4 d6 d11 ?_
  refine kg_if_ne (tgt := pT + 28) CC hk d13 (by omega) ?_
  by_cases hk0 : k = 0
  · refine kW_f (by rw [hk0]; rfl) ?_
    refine kg_aload_n CC d16 rfl (kg_iconst CC d17 ?_)
    refine kg_lald (x := .inr (.inr (σ 110 0))) CC d18 k_z32 rfl ?_
    rw [e110 hk0]
    refine kg_iload CC d19 rfl (kg_i2l CC d21 hv (kg_lcmp CC (k_6432 hv) (k_6432 hv) d22 ?_))
    refine kg_if_eq (tgt := pT + 28) CC ?_ d23 (by omega) (kW_t kcmp_self e0)
    unfold kcmp3 kR32
    split <;> (try split) <;> omega
  · exact kW_t (decide_eq_true hk0) e0
theorem kTailZ (CC : kC MLw X) (hS : kVS σ) (hk : kR32 k) (hv : v = 0 ∨ v = 1) (e22 : σ 14 22 = k) (e110 : k = 0 → σ 110 0 = v) (d0 : decode cL_law pT = .ok (.aload_n 2, 1)) (d1 : decode cL_law (pT + 1) = .ok (.invokevirtual 88, 3)) (d4 : decode cL_law (pT + 4) = .ok (.iload 5, 2)) (d6 : decode cL_law (pT + 6) = .ok (.if_icmp .eq 5, 3)) (d11 : decode cL_law (pT + 11) = .ok (.iload 5, 2))
    (d13 : decode cL_law (pT + 13) = .ok (.ifCond .ne 22, 3)) (d16 : decode cL_law (pT + 16) = .ok (.aload_n 3, 1)) (d17 : decode cL_law (pT + 17) = .ok (.iconst 0, 1)) (d18 : decode cL_law (pT + 18) = .ok (.laload, 1)) (d19 : decode cL_law (pT + 19) = .ok (.iload 6, 2)) (d21 : decode cL_law (pT + 21) = .ok (.ifCond .eq 7, 3)) (d24 : decode cL_law (pT + 24) = .ok (.lconst 1, 1)) (d25 : decode cL_law (pT + 25) = .ok (.goto 4, 3)) (d28 : decode cL_law (pT + 28) = .ok (.lconst 0, 1))
    (d29 : decode cL_law (pT + 29) = .ok (.lcmp, 1)) (d30 : decode cL_law (pT + 30) = .ok (.ifCond .eq 5, 3)) (d35 : decode cL_law (pT + 35) = .ok (.goto off, 3)) (ht : ((pT + 35 : Nat) : Int) + off = ((1304 : Nat) : Int))
    (kk : kW MLw X 1304 (L5 n) [] σ) : kW MLw X pT (L7 n k v) [] σ := by
  have e0 : kW MLw X (pT + 35) (L7 n k v) [] σ := kg_goto CC d35 ht (kW_take (k := 5) kk)
  have hv3 : kR32 v := by unfold kR32; omega
  have e1 : kW MLw X (pT + 29) (L7 n k v) [.inr (.inr v), .inr (.inr v)] σ := by
    refine kg_lcmp CC (k_6432 hv3) (k_6432 hv3) d29 ?_
    refine kg_if_eq (tgt := pT + 35) CC ?_ d30 (by omega) (kW_t kcmp_self e0)
    unfold kcmp3 kR32
    split <;> (try split) <;> omega
  refine kTail CC hS hk e22 d0 d1 d4 d6 d11 ?_
  refine kg_if_ne (tgt := pT + 35) CC hk d13 (by omega) ?_
  by_cases hk0 : k = 0
  · refine kW_f (by rw [hk0]; rfl) ?_
    refine kg_aload_n CC d16 rfl (kg_iconst CC d17 ?_)
    refine kg_lald (x := .inr (.inr (σ 110 0))) CC d18 k_z32 rfl ?_
    rw [e110 hk0]
    refine kg_iload CC d19 rfl ?_
    refine kg_if_eq (tgt := pT + 28) CC hv3 d21 (by omega) ?_
    rcases hv with rfl | rfl
    · exact kW_t rfl (kg_lconst CC d28 e1)
    · exact kW_f rfl (kg_lconst CC d24 (kg_goto (tgt := pT + 29) CC d25 (by omega) e1))
  · exact kW_t (decide_eq_true hk0) e0
end TL
/-- what a round of the loop stands on, and what goes on behind it -/
def kGo (X : kX) (n : Nat) (A : Int) : Prop := ∀ σ2 : kS, kVS σ2 → JV σ2 (A + 600) → kW MLw (kXp X) 1304 (L5 n) [] σ2
def kRd (X : kX) (n : Nat) (σ : kS) (A : Int) (b L : Nat) (xs : Nat → Int32) : Prop := kCX MLw X ∧ kLC X b L xs ∧ n + 4 ≤ L ∧ kVS σ ∧ JV σ A ∧ A + 600 < 2147483647 ∧ kXc X + 1 ≤ 601024 ∧ kXs X + 6 ≤ 7293000
section CS
variable {X : kX} {n b L : Nat} {σ : kS} {A : Int} {xs : Nat → Int32}
theorem kCase {y yM : MethodName} {cc ccM : ByteArray} {nL nLM idx1 idx2 pA p1 p2 nn : Nat} {hh : List (Nat × Nat × Nat × Nat)} {rm rmM : Room} {retM : Option FieldType} {body : kSx} {chk : Option kV → Bool} {site : Nat → Option (String × Int)} {FM : kFn}
    (hc : kConW y cc nL hh rm nn body chk site) (hw : kMw y cc nL hh (nn + 2)) (hl1 : Cond.methodLink RL idx1 y ∈ kTBL) (hR1 : rm.cells = 1 ∧ rm.slots = 6 ∧ rm.frames + 1 ≤ 10 ∧ 8 + (nL + 11) + rm.locals ≤ 364) (d1 : decode cL_law p1 = .ok (.invokestatic idx1, 3)) (d2 : decode cL_law (p1 + 3) = .ok (.istore 5, 2))
    (hcM : kCon yM ccM nLM retM rmM FM) (hvM : kMv yM ccM nLM retM 12 nn) (hl2 : Cond.methodLink RL idx2 yM ∈ kTBL) (hR2 : rmM.cells = 0 ∧ rmM.slots = 0 ∧ rmM.frames + 1 ≤ 10 ∧ 8 + (nLM + 11) + rmM.locals ≤ 364) (d3 : decode cL_law p2 = .ok (.invokevirtual idx2, 3)) (d4 : decode cL_law (p2 + 3) = .ok (.istore 6, 2))
    (R : kRd X n σ A b L xs) {ys : List Int} (hys : ∀ z ∈ ys, kR32 z) (hlen : ys.length = nn)
    (hj : ∃ (k : Int) (σ1 : kS), fW body chk site (.inr (.inl 0) :: ys.map Sum.inl) σ = some (k, σ1) ∧ ∃ (v : Int) (σ2 : kS), FM (.inr (.inl 14) :: ys.map Sum.inl) σ1 = some (some (.inl v), σ2) ∧ JV σ2 (A + 600) ∧ σ2 14 22 = k ∧ (k = 0 → σ2 110 0 = v) ∧ chk (some (.inl v)) = true)
    (push1 : ∀ X, kC MLw X → kLC X b L xs → kW MLw X p1 (L5 n) (kArgs ys).reverse σ → kW MLw X pA (L5 n) [] σ)
    (push2 : ∀ X k σ, kC MLw X → kLC X b L xs → kW MLw X p2 (L6 n k) (.inr (.inl 14) :: ys.map Sum.inl).reverse σ → kW MLw X (p1 + 3 + 2) (L6 n k) [] σ)
    (tail : ∀ X k v σ, kC MLw X → kVS σ → kR32 k → kR32 v → chk (some (.inl v)) = true → σ 14 22 = k → (k = 0 → σ 110 0 = v) → kW MLw X 1304 (L5 n) [] σ → kW MLw X (p2 + 3 + 2) (L7 n k v) [] σ)
    (kk : kGo X n A) : kW MLw X pA (L5 n) [] σ := by
  obtain ⟨CC, LC, hn, hS, hJ, hA, hcl, hsl⟩ := R
  obtain ⟨k, σ1, hF, v, σ2, hM, hJ2, e22, e110, hch⟩ := hj
  obtain ⟨hk, hS1, g1⟩ := kg_callW (M := MLw) (pc := p1) (L := L5 n) hc hw hl1 hR1 d1 hS hys hlen hF
  have hvv : ∀ w ∈ (.inr (.inl 14) :: ys.map Sum.inl : List kV), kVV w := by
    intro w hw
    rcases List.mem_cons.mp hw with rfl | hw
    · trivial
    · obtain ⟨z, hz, rfl⟩ := List.mem_map.mp hw
      exact hys z hz
  obtain ⟨hv, hS2, g2⟩ := kg_callV (M := MLw) (pc := p2) (L := L6 n k) (st := []) hcM hvM hl2 hR2 d3 (by decide) (by simp [hlen]) hvv hS1 rfl hM
  have hv32 : kR32 v := hv _ rfl
  have CU : kCX MLw (kXp X) := CC.up hcl hsl
  refine push1 X CC.1 LC (g1 X CC hcl hsl ?_)
  refine kg_istore (L' := L6 n k) CU.1 d2 (by decide) rfl ?_
  refine push2 _ k σ1 CU.1 LC.up ?_
  rw [← List.append_nil (List.reverse _)]
  refine g2 _ CU.1 ?_
  refine kg_istore (L' := L7 n k v) CU.1 d4 (by decide) rfl ?_
  exact tail _ k v σ2 CU.1 hS2 hk hv32 hch e22 e110 (kk σ2 hS2 hJ2)
theorem kAll1 {P : Int → Prop} {a : Int} (h : P a) : ∀ z ∈ [a], P z := fun z hz => by rw [List.mem_singleton.mp hz]; exact h
theorem kAll2 {P : Int → Prop} {a b : Int} (h : P a) (h2 : P b) : ∀ z ∈ [a, b], P z := fun z hz => by
  rcases List.mem_cons.mp hz with rfl | hz
  · exact h
  · exact kAll1 h2 z hz
theorem kAll3 {P : Int → Prop} {a b c : Int} (h : P a) (h2 : P b) (h3 : P c) : ∀ z ∈ [a, b, c], P z := fun z hz => by
  rcases List.mem_cons.mp hz with rfl | hz
  · exact h
  · exact kAll2 h2 h3 z hz
theorem mw_node : kMw yL_node cL_node 4 [(0, 9, 12, 13)] 3 := ⟨(ktb3 122 (by decide +kernel) (by decide +kernel)), (ktb3 121 (by decide +kernel) (by decide +kernel)), (ktb1 0 (by decide +kernel) (by decide +kernel)), ⟨by decide +kernel, by decide +kernel⟩, by decide +kernel⟩
theorem mvm_node : kMv yX12_node cX12_node 2 (some .int) 12 1 := ⟨(ktb6 133 (by decide +kernel) (by decide +kernel)), (ktb6 131 (by decide +kernel) (by decide +kernel)), (ktb6 132 (by decide +kernel) (by decide +kernel)), (ktb1 14 (by decide +kernel) (by decide +kernel)), ⟨_, _, rfl⟩, ⟨by decide +kernel, by decide +kernel⟩, by decide +kernel⟩
theorem lml_84 : Cond.methodLink RL 84 yL_node ∈ kTBL := (ktb3 120 (by decide +kernel) (by decide +kernel))
theorem lml_87 : Cond.methodLink RL 87 yX12_node ∈ kTBL := (ktb6 130 (by decide +kernel) (by decide +kernel))
theorem case_node (R : kRd X n σ A b L xs) (kk : kGo X n A) : kW MLw X 148 (L5 n) [] σ := by
  have hn := R.2.2.1
  exact kCase (pA := 148) (p1 := 156) (p2 := 168) (ys := [(xs (n + 1)).toInt]) cw_node mw_node lml_84 ⟨rfl, rfl, by decide, by decide⟩ dL_law_156 dL_law_159 c_Md_node mvm_node lml_87 ⟨rfl, rfl, by decide, by decide⟩ dL_law_168 dL_law_171 R (kAll1 (kR_i32 _)) rfl (jj_node (kR_i32 _) R.2.2.2.2.2.1 R.2.2.2.2.1)
    (fun X CC LC kk => kg_aload_n CC dL_law_148 rfl (kg_scr (j := 1) CC LC (by omega) dL_law_149 dL_law_150 dL_law_152 dL_law_153 dL_law_154 (kg_aload_n CC dL_law_155 rfl kk)))
    (fun X k σ CC LC kk => kg_aload_n CC dL_law_161 rfl (kg_scr (j := 1) CC LC (by omega) dL_law_162 dL_law_163 dL_law_165 dL_law_166 dL_law_167 kk))
    (fun X k v σ CC hS hk hv hch e1 e2 kk => kTailI CC hS hk hv e1 e2 dL_law_173 dL_law_174 dL_law_177 dL_law_179 dL_law_184 dL_law_186 dL_law_189 dL_law_190 dL_law_191 dL_law_192 dL_law_194 dL_law_195 dL_law_196 dL_law_201 (by decide) kk) kk
theorem mw_chain : kMw yL_chain cL_chain 4 [(0, 9, 12, 18), (0, 9, 15, 13)] 3 := ⟨(ktb3 238 (by decide +kernel) (by decide +kernel)), (ktb3 237 (by decide +kernel) (by decide +kernel)), (ktb1 0 (by decide +kernel) (by decide +kernel)), ⟨by decide +kernel, by decide +kernel⟩, by decide +kernel⟩
theorem mvm_chain : kMv yX12_chain cX12_chain 4 (some .int) 12 1 := ⟨(ktb6 145 (by decide +kernel) (by decide +kernel)), (ktb6 143 (by decide +kernel) (by decide +kernel)), (ktb6 144 (by decide +kernel) (by decide +kernel)), (ktb1 14 (by decide +kernel) (by decide +kernel)), ⟨_, _, rfl⟩, ⟨by decide +kernel, by decide +kernel⟩, by decide +kernel⟩
theorem lml_92 : Cond.methodLink RL 92 yL_chain ∈ kTBL := (ktb3 236 (by decide +kernel) (by decide +kernel))
theorem lml_94 : Cond.methodLink RL 94 yX12_chain ∈ kTBL := (ktb6 142 (by decide +kernel) (by decide +kernel))
theorem case_chain (R : kRd X n σ A b L xs) (kk : kGo X n A) : kW MLw X 204 (L5 n) [] σ := by
  have hn := R.2.2.1
  exact kCase (pA := 204) (p1 := 212) (p2 := 224) (ys := [(xs (n + 1)).toInt]) cw_chain mw_chain lml_92 ⟨rfl, rfl, by decide, by decide⟩ dL_law_212 dL_law_215 c_Md_chain mvm_chain lml_94 ⟨rfl, rfl, by decide, by decide⟩ dL_law_224 dL_law_227 R (kAll1 (kR_i32 _)) rfl (jj_chain (kR_i32 _) R.2.2.2.2.2.1 R.2.2.2.2.1)
    (fun X CC LC kk => kg_aload_n CC dL_law_204 rfl (kg_scr (j := 1) CC LC (by omega) dL_law_205 dL_law_206 dL_law_208 dL_law_209 dL_law_210 (kg_aload_n CC dL_law_211 rfl kk)))
    (fun X k σ CC LC kk => kg_aload_n CC dL_law_217 rfl (kg_scr (j := 1) CC LC (by omega) dL_law_218 dL_law_219 dL_law_221 dL_law_222 dL_law_223 kk))
    (fun X k v σ CC hS hk hv hch e1 e2 kk => kTailI CC hS hk hv e1 e2 dL_law_229 dL_law_230 dL_law_233 dL_law_235 dL_law_240 dL_law_242 dL_law_245 dL_law_246 dL_law_247 dL_law_248 dL_law_250 dL_law_251 dL_law_252 dL_law_257 (by decide) kk) kk
theorem mw_put : kMw yL_put cL_put 5 [(0, 10, 13, 24), (0, 10, 17, 13)] 4 := ⟨(ktb4 72 (by decide +kernel) (by decide +kernel)), (ktb4 71 (by decide +kernel) (by decide +kernel)), (ktb1 0 (by decide +kernel) (by decide +kernel)), ⟨by decide +kernel, by decide +kernel⟩, by decide +kernel⟩
theorem mvm_put : kMv yX12_put cX12_put 6 (some .int) 12 2 := ⟨(ktb6 149 (by decide +kernel) (by decide +kernel)), (ktb6 147 (by decide +kernel) (by decide +kernel)), (ktb6 148 (by decide +kernel) (by decide +kernel)), (ktb1 14 (by decide +kernel) (by decide +kernel)), ⟨_, _, rfl⟩, ⟨by decide +kernel, by decide +kernel⟩, by decide +kernel⟩
theorem lml_95 : Cond.methodLink RL 95 yL_put ∈ kTBL := (ktb4 70 (by decide +kernel) (by decide +kernel))
theorem lml_98 : Cond.methodLink RL 98 yX12_put ∈ kTBL := (ktb6 182 (by decide +kernel) (by decide +kernel))
theorem case_put (R : kRd X n σ A b L xs) (kk : kGo X n A) : kW MLw X 260 (L5 n) [] σ := by
  have hn := R.2.2.1
  exact kCase (pA := 260) (p1 := 274) (p2 := 292) (ys := [(xs (n + 1)).toInt, (xs (n + 2)).toInt]) cw_put mw_put lml_95 ⟨rfl, rfl, by decide, by decide⟩ dL_law_274 dL_law_277 c_Md_put mvm_put lml_98 ⟨rfl, rfl, by decide, by decide⟩ dL_law_292 dL_law_295 R (kAll2 (kR_i32 _) (kR_i32 _)) rfl (jj_put (kR_i32 _) (kR_i32 _) R.2.2.2.2.2.1 R.2.2.2.2.1)
    (fun X CC LC kk => kg_aload_n CC dL_law_260 rfl (kg_scr (j := 1) CC LC (by omega) dL_law_261 dL_law_262 dL_law_264 dL_law_265 dL_law_266 (kg_scr (j := 2) CC LC (by omega) dL_law_267 dL_law_268 dL_law_270 dL_law_271 dL_law_272 (kg_aload_n CC dL_law_273 rfl kk))))
    (fun X k σ CC LC kk => kg_aload_n CC dL_law_279 rfl (kg_scr (j := 1) CC LC (by omega) dL_law_280 dL_law_281 dL_law_283 dL_law_284 dL_law_285 (kg_scr (j := 2) CC LC (by omega) dL_law_286 dL_law_287 dL_law_289 dL_law_290 dL_law_291 kk)))
    (fun X k v σ CC hS hk hv hch e1 e2 kk => kTailI CC hS hk hv e1 e2 dL_law_297 dL_law_298 dL_law_301 dL_law_303 dL_law_308 dL_law_310 dL_law_313 dL_law_314 dL_law_315 dL_law_316 dL_law_318 dL_law_319 dL_law_320 dL_law_325 (by decide) kk) kk
theorem mw_take : kMw yL_take cL_take 4 [(0, 9, 12, 24)] 3 := ⟨(ktb4 113 (by decide +kernel) (by decide +kernel)), (ktb4 112 (by decide +kernel) (by decide +kernel)), (ktb1 0 (by decide +kernel) (by decide +kernel)), ⟨by decide +kernel, by decide +kernel⟩, by decide +kernel⟩
theorem mvm_take : kMv yX12_take cX12_take 5 (some .int) 12 1 := ⟨(ktb6 186 (by decide +kernel) (by decide +kernel)), (ktb6 184 (by decide +kernel) (by decide +kernel)), (ktb6 185 (by decide +kernel) (by decide +kernel)), (ktb1 14 (by decide +kernel) (by decide +kernel)), ⟨_, _, rfl⟩, ⟨by decide +kernel, by decide +kernel⟩, by decide +kernel⟩
theorem lml_99 : Cond.methodLink RL 99 yL_take ∈ kTBL := (ktb4 111 (by decide +kernel) (by decide +kernel))
theorem lml_101 : Cond.methodLink RL 101 yX12_take ∈ kTBL := (ktb6 183 (by decide +kernel) (by decide +kernel))
theorem case_take (R : kRd X n σ A b L xs) (kk : kGo X n A) : kW MLw X 328 (L5 n) [] σ := by
  have hn := R.2.2.1
  exact kCase (pA := 328) (p1 := 336) (p2 := 348) (ys := [(xs (n + 1)).toInt]) cw_take mw_take lml_99 ⟨rfl, rfl, by decide, by decide⟩ dL_law_336 dL_law_339 c_Md_take mvm_take lml_101 ⟨rfl, rfl, by decide, by decide⟩ dL_law_348 dL_law_351 R (kAll1 (kR_i32 _)) rfl (jj_take (kR_i32 _) R.2.2.2.2.2.1 R.2.2.2.2.1)
    (fun X CC LC kk => kg_aload_n CC dL_law_328 rfl (kg_scr (j := 1) CC LC (by omega) dL_law_329 dL_law_330 dL_law_332 dL_law_333 dL_law_334 (kg_aload_n CC dL_law_335 rfl kk)))
    (fun X k σ CC LC kk => kg_aload_n CC dL_law_341 rfl (kg_scr (j := 1) CC LC (by omega) dL_law_342 dL_law_343 dL_law_345 dL_law_346 dL_law_347 kk))
    (fun X k v σ CC hS hk hv hch e1 e2 kk => kTailI CC hS hk hv e1 e2 dL_law_353 dL_law_354 dL_law_357 dL_law_359 dL_law_364 dL_law_366 dL_law_369 dL_law_370 dL_law_371 dL_law_372 dL_law_374 dL_law_375 dL_law_376 dL_law_381 (by decide) kk) kk
theorem mw_weigh : kMw yL_weigh cL_weigh 5 [(0, 10, 13, 24)] 4 := ⟨(ktb4 174 (by decide +kernel) (by decide +kernel)), (ktb4 173 (by decide +kernel) (by decide +kernel)), (ktb1 0 (by decide +kernel) (by decide +kernel)), ⟨by decide +kernel, by decide +kernel⟩, by decide +kernel⟩
theorem mvm_weigh : kMv yX12_weigh cX12_weigh 3 (some .int) 12 2 := ⟨(ktb6 210 (by decide +kernel) (by decide +kernel)), (ktb6 208 (by decide +kernel) (by decide +kernel)), (ktb6 209 (by decide +kernel) (by decide +kernel)), (ktb1 14 (by decide +kernel) (by decide +kernel)), ⟨_, _, rfl⟩, ⟨by decide +kernel, by decide +kernel⟩, by decide +kernel⟩
theorem lml_102 : Cond.methodLink RL 102 yL_weigh ∈ kTBL := (ktb4 172 (by decide +kernel) (by decide +kernel))
theorem lml_104 : Cond.methodLink RL 104 yX12_weigh ∈ kTBL := (ktb6 207 (by decide +kernel) (by decide +kernel))
theorem case_weigh (R : kRd X n σ A b L xs) (kk : kGo X n A) : kW MLw X 384 (L5 n) [] σ := by
  have hn := R.2.2.1
  exact kCase (pA := 384) (p1 := 398) (p2 := 416) (ys := [(xs (n + 1)).toInt, (xs (n + 2)).toInt]) cw_weigh mw_weigh lml_102 ⟨rfl, rfl, by decide, by decide⟩ dL_law_398 dL_law_401 c_Md_weigh mvm_weigh lml_104 ⟨rfl, rfl, by decide, by decide⟩ dL_law_416 dL_law_419 R (kAll2 (kR_i32 _) (kR_i32 _)) rfl (jj_weigh (kR_i32 _) (kR_i32 _) R.2.2.2.2.1)
    (fun X CC LC kk => kg_aload_n CC dL_law_384 rfl (kg_scr (j := 1) CC LC (by omega) dL_law_385 dL_law_386 dL_law_388 dL_law_389 dL_law_390 (kg_scr (j := 2) CC LC (by omega) dL_law_391 dL_law_392 dL_law_394 dL_law_395 dL_law_396 (kg_aload_n CC dL_law_397 rfl kk))))
    (fun X k σ CC LC kk => kg_aload_n CC dL_law_403 rfl (kg_scr (j := 1) CC LC (by omega) dL_law_404 dL_law_405 dL_law_407 dL_law_408 dL_law_409 (kg_scr (j := 2) CC LC (by omega) dL_law_410 dL_law_411 dL_law_413 dL_law_414 dL_law_415 kk)))
    (fun X k v σ CC hS hk hv hch e1 e2 kk => kTailI CC hS hk hv e1 e2 dL_law_421 dL_law_422 dL_law_425 dL_law_427 dL_law_432 dL_law_434 dL_law_437 dL_law_438 dL_law_439 dL_law_440 dL_law_442 dL_law_443 dL_law_444 dL_law_449 (by decide) kk) kk
theorem mw_joined : kMw yL_joined cL_joined 5 [(0, 17, 20, 24)] 4 := ⟨(ktb4 186 (by decide +kernel) (by decide +kernel)), (ktb4 185 (by decide +kernel) (by decide +kernel)), (ktb1 0 (by decide +kernel) (by decide +kernel)), ⟨by decide +kernel, by decide +kernel⟩, by decide +kernel⟩
theorem mvm_joined : kMv yX12_joined cX12_joined 3 (some .boolean) 12 2 := ⟨(ktb6 214 (by decide +kernel) (by decide +kernel)), (ktb6 212 (by decide +kernel) (by decide +kernel)), (ktb6 213 (by decide +kernel) (by decide +kernel)), (ktb1 14 (by decide +kernel) (by decide +kernel)), ⟨_, _, rfl⟩, ⟨by decide +kernel, by decide +kernel⟩, by decide +kernel⟩
theorem lml_105 : Cond.methodLink RL 105 yL_joined ∈ kTBL := (ktb4 184 (by decide +kernel) (by decide +kernel))
theorem lml_107 : Cond.methodLink RL 107 yX12_joined ∈ kTBL := (ktb6 211 (by decide +kernel) (by decide +kernel))
theorem case_joined (R : kRd X n σ A b L xs) (kk : kGo X n A) : kW MLw X 452 (L5 n) [] σ := by
  have hn := R.2.2.1
  exact kCase (pA := 452) (p1 := 466) (p2 := 484) (ys := [(xs (n + 1)).toInt, (xs (n + 2)).toInt]) cw_joined mw_joined lml_105 ⟨rfl, rfl, by decide, by decide⟩ dL_law_466 dL_law_469 c_Md_joined mvm_joined lml_107 ⟨rfl, rfl, by decide, by decide⟩ dL_law_484 dL_law_487 R (kAll2 (kR_i32 _) (kR_i32 _)) rfl (jj_joined (kR_i32 _) (kR_i32 _) R.2.2.2.2.1)
    (fun X CC LC kk => kg_aload_n CC dL_law_452 rfl (kg_scr (j := 1) CC LC (by omega) dL_law_453 dL_law_454 dL_law_456 dL_law_457 dL_law_458 (kg_scr (j := 2) CC LC (by omega) dL_law_459 dL_law_460 dL_law_462 dL_law_463 dL_law_464 (kg_aload_n CC dL_law_465 rfl kk))))
    (fun X k σ CC LC kk => kg_aload_n CC dL_law_471 rfl (kg_scr (j := 1) CC LC (by omega) dL_law_472 dL_law_473 dL_law_475 dL_law_476 dL_law_477 (kg_scr (j := 2) CC LC (by omega) dL_law_478 dL_law_479 dL_law_481 dL_law_482 dL_law_483 kk)))
    (fun X k v σ CC hS hk hv hch e1 e2 kk => kTailZ CC hS hk (by simpa [kZ] using hch) e1 e2 dL_law_489 dL_law_490 dL_law_493 dL_law_495 dL_law_500 dL_law_502 dL_law_505 dL_law_506 dL_law_507 dL_law_508 dL_law_510 dL_law_513 dL_law_514 dL_law_517 dL_law_518 dL_law_519 dL_law_524 (by decide) kk) kk
theorem mw_two : kMw yL_two cL_two 5 [(0, 17, 20, 24)] 4 := ⟨(ktb4 194 (by decide +kernel) (by decide +kernel)), (ktb4 193 (by decide +kernel) (by decide +kernel)), (ktb1 0 (by decide +kernel) (by decide +kernel)), ⟨by decide +kernel, by decide +kernel⟩, by decide +kernel⟩
theorem mvm_two : kMv yX12_two cX12_two 6 (some .boolean) 12 2 := ⟨(ktb6 218 (by decide +kernel) (by decide +kernel)), (ktb6 216 (by decide +kernel) (by decide +kernel)), (ktb6 217 (by decide +kernel) (by decide +kernel)), (ktb1 14 (by decide +kernel) (by decide +kernel)), ⟨_, _, rfl⟩, ⟨by decide +kernel, by decide +kernel⟩, by decide +kernel⟩
theorem lml_108 : Cond.methodLink RL 108 yL_two ∈ kTBL := (ktb4 192 (by decide +kernel) (by decide +kernel))
theorem lml_110 : Cond.methodLink RL 110 yX12_two ∈ kTBL := (ktb6 215 (by decide +kernel) (by decide +kernel))
theorem case_two (R : kRd X n σ A b L xs) (kk : kGo X n A) : kW MLw X 527 (L5 n) [] σ := by
  have hn := R.2.2.1
  exact kCase (pA := 527) (p1 := 541) (p2 := 559) (ys := [(xs (n + 1)).toInt, (xs (n + 2)).toInt]) cw_two mw_two lml_108 ⟨rfl, rfl, by decide, by decide⟩ dL_law_541 dL_law_544 c_Md_two mvm_two lml_110 ⟨rfl, rfl, by decide, by decide⟩ dL_law_559 dL_law_562 R (kAll2 (kR_i32 _) (kR_i32 _)) rfl (jj_two (kR_i32 _) (kR_i32 _) R.2.2.2.2.1)
    (fun X CC LC kk => kg_aload_n CC dL_law_527 rfl (kg_scr (j := 1) CC LC (by omega) dL_law_528 dL_law_529 dL_law_531 dL_law_532 dL_law_533 (kg_scr (j := 2) CC LC (by omega) dL_law_534 dL_law_535 dL_law_537 dL_law_538 dL_law_539 (kg_aload_n CC dL_law_540 rfl kk))))
    (fun X k σ CC LC kk => kg_aload_n CC dL_law_546 rfl (kg_scr (j := 1) CC LC (by omega) dL_law_547 dL_law_548 dL_law_550 dL_law_551 dL_law_552 (kg_scr (j := 2) CC LC (by omega) dL_law_553 dL_law_554 dL_law_556 dL_law_557 dL_law_558 kk)))
    (fun X k v σ CC hS hk hv hch e1 e2 kk => kTailZ CC hS hk (by simpa [kZ] using hch) e1 e2 dL_law_564 dL_law_565 dL_law_568 dL_law_570 dL_law_575 dL_law_577 dL_law_580 dL_law_581 dL_law_582 dL_law_583 dL_law_585 dL_law_588 dL_law_589 dL_law_592 dL_law_593 dL_law_594 dL_law_599 (by decide) kk) kk
theorem mw_of : kMw yL_of cL_of 5 [(0, 10, 13, 24), (0, 10, 17, 18)] 4 := ⟨(ktb4 217 (by decide +kernel) (by decide +kernel)), (ktb4 216 (by decide +kernel) (by decide +kernel)), (ktb1 0 (by decide +kernel) (by decide +kernel)), ⟨by decide +kernel, by decide +kernel⟩, by decide +kernel⟩
theorem mvm_of : kMv yX12_of cX12_of 4 (some .int) 12 2 := ⟨(ktb6 226 (by decide +kernel) (by decide +kernel)), (ktb6 224 (by decide +kernel) (by decide +kernel)), (ktb6 225 (by decide +kernel) (by decide +kernel)), (ktb1 14 (by decide +kernel) (by decide +kernel)), ⟨_, _, rfl⟩, ⟨by decide +kernel, by decide +kernel⟩, by decide +kernel⟩
theorem lml_111 : Cond.methodLink RL 111 yL_of ∈ kTBL := (ktb4 215 (by decide +kernel) (by decide +kernel))
theorem lml_113 : Cond.methodLink RL 113 yX12_of ∈ kTBL := (ktb6 223 (by decide +kernel) (by decide +kernel))
theorem case_of (R : kRd X n σ A b L xs) (kk : kGo X n A) : kW MLw X 602 (L5 n) [] σ := by
  have hn := R.2.2.1
  exact kCase (pA := 602) (p1 := 616) (p2 := 634) (ys := [(xs (n + 1)).toInt, (xs (n + 2)).toInt]) cw_of mw_of lml_111 ⟨rfl, rfl, by decide, by decide⟩ dL_law_616 dL_law_619 c_Md_of mvm_of lml_113 ⟨rfl, rfl, by decide, by decide⟩ dL_law_634 dL_law_637 R (kAll2 (kR_i32 _) (kR_i32 _)) rfl (jj_of (kR_i32 _) (kR_i32 _) R.2.2.2.2.1)
    (fun X CC LC kk => kg_aload_n CC dL_law_602 rfl (kg_scr (j := 1) CC LC (by omega) dL_law_603 dL_law_604 dL_law_606 dL_law_607 dL_law_608 (kg_scr (j := 2) CC LC (by omega) dL_law_609 dL_law_610 dL_law_612 dL_law_613 dL_law_614 (kg_aload_n CC dL_law_615 rfl kk))))
    (fun X k σ CC LC kk => kg_aload_n CC dL_law_621 rfl (kg_scr (j := 1) CC LC (by omega) dL_law_622 dL_law_623 dL_law_625 dL_law_626 dL_law_627 (kg_scr (j := 2) CC LC (by omega) dL_law_628 dL_law_629 dL_law_631 dL_law_632 dL_law_633 kk)))
    (fun X k v σ CC hS hk hv hch e1 e2 kk => kTailI CC hS hk hv e1 e2 dL_law_639 dL_law_640 dL_law_643 dL_law_645 dL_law_650 dL_law_652 dL_law_655 dL_law_656 dL_law_657 dL_law_658 dL_law_660 dL_law_661 dL_law_662 dL_law_667 (by decide) kk) kk
theorem mw_arc : kMw yL_arc cL_arc 5 [(0, 10, 13, 24), (0, 10, 17, 18)] 4 := ⟨(ktb5 32 (by decide +kernel) (by decide +kernel)), (ktb5 31 (by decide +kernel) (by decide +kernel)), (ktb1 0 (by decide +kernel) (by decide +kernel)), ⟨by decide +kernel, by decide +kernel⟩, by decide +kernel⟩
theorem mvm_arc : kMv yX12_arc cX12_arc 4 (some .int) 12 2 := ⟨(ktb7 2 (by decide +kernel) (by decide +kernel)), (ktb7 0 (by decide +kernel) (by decide +kernel)), (ktb7 1 (by decide +kernel) (by decide +kernel)), (ktb1 14 (by decide +kernel) (by decide +kernel)), ⟨_, _, rfl⟩, ⟨by decide +kernel, by decide +kernel⟩, by decide +kernel⟩
theorem lml_114 : Cond.methodLink RL 114 yL_arc ∈ kTBL := (ktb5 30 (by decide +kernel) (by decide +kernel))
theorem lml_116 : Cond.methodLink RL 116 yX12_arc ∈ kTBL := (ktb6 239 (by decide +kernel) (by decide +kernel))
theorem case_arc (R : kRd X n σ A b L xs) (kk : kGo X n A) : kW MLw X 670 (L5 n) [] σ := by
  have hn := R.2.2.1
  exact kCase (pA := 670) (p1 := 684) (p2 := 702) (ys := [(xs (n + 1)).toInt, (xs (n + 2)).toInt]) cw_arc mw_arc lml_114 ⟨rfl, rfl, by decide, by decide⟩ dL_law_684 dL_law_687 c_Md_arc mvm_arc lml_116 ⟨rfl, rfl, by decide, by decide⟩ dL_law_702 dL_law_705 R (kAll2 (kR_i32 _) (kR_i32 _)) rfl (jj_arc (kR_i32 _) (kR_i32 _) R.2.2.2.2.1)
    (fun X CC LC kk => kg_aload_n CC dL_law_670 rfl (kg_scr (j := 1) CC LC (by omega) dL_law_671 dL_law_672 dL_law_674 dL_law_675 dL_law_676 (kg_scr (j := 2) CC LC (by omega) dL_law_677 dL_law_678 dL_law_680 dL_law_681 dL_law_682 (kg_aload_n CC dL_law_683 rfl kk))))
    (fun X k σ CC LC kk => kg_aload_n CC dL_law_689 rfl (kg_scr (j := 1) CC LC (by omega) dL_law_690 dL_law_691 dL_law_693 dL_law_694 dL_law_695 (kg_scr (j := 2) CC LC (by omega) dL_law_696 dL_law_697 dL_law_699 dL_law_700 dL_law_701 kk)))
    (fun X k v σ CC hS hk hv hch e1 e2 kk => kTailI CC hS hk hv e1 e2 dL_law_707 dL_law_708 dL_law_711 dL_law_713 dL_law_718 dL_law_720 dL_law_723 dL_law_724 dL_law_725 dL_law_726 dL_law_728 dL_law_729 dL_law_730 dL_law_735 (by decide) kk) kk
theorem mw_order : kMw yL_order cL_order 4 [(0, 9, 12, 24)] 3 := ⟨(ktb5 45 (by decide +kernel) (by decide +kernel)), (ktb5 44 (by decide +kernel) (by decide +kernel)), (ktb1 0 (by decide +kernel) (by decide +kernel)), ⟨by decide +kernel, by decide +kernel⟩, by decide +kernel⟩
theorem mvm_order : kMv yX12_order cX12_order 2 (some .int) 12 1 := ⟨(ktb7 14 (by decide +kernel) (by decide +kernel)), (ktb7 12 (by decide +kernel) (by decide +kernel)), (ktb7 13 (by decide +kernel) (by decide +kernel)), (ktb1 14 (by decide +kernel) (by decide +kernel)), ⟨_, _, rfl⟩, ⟨by decide +kernel, by decide +kernel⟩, by decide +kernel⟩
theorem lml_117 : Cond.methodLink RL 117 yL_order ∈ kTBL := (ktb5 43 (by decide +kernel) (by decide +kernel))
theorem lml_119 : Cond.methodLink RL 119 yX12_order ∈ kTBL := (ktb7 11 (by decide +kernel) (by decide +kernel))
theorem case_order (R : kRd X n σ A b L xs) (kk : kGo X n A) : kW MLw X 738 (L5 n) [] σ := by
  have hn := R.2.2.1
  exact kCase (pA := 738) (p1 := 746) (p2 := 758) (ys := [(xs (n + 1)).toInt]) cw_order mw_order lml_117 ⟨rfl, rfl, by decide, by decide⟩ dL_law_746 dL_law_749 c_Md_order mvm_order lml_119 ⟨rfl, rfl, by decide, by decide⟩ dL_law_758 dL_law_761 R (kAll1 (kR_i32 _)) rfl (jj_order (kR_i32 _) R.2.2.2.2.1)
    (fun X CC LC kk => kg_aload_n CC dL_law_738 rfl (kg_scr (j := 1) CC LC (by omega) dL_law_739 dL_law_740 dL_law_742 dL_law_743 dL_law_744 (kg_aload_n CC dL_law_745 rfl kk)))
    (fun X k σ CC LC kk => kg_aload_n CC dL_law_751 rfl (kg_scr (j := 1) CC LC (by omega) dL_law_752 dL_law_753 dL_law_755 dL_law_756 dL_law_757 kk))
    (fun X k v σ CC hS hk hv hch e1 e2 kk => kTailI CC hS hk hv e1 e2 dL_law_763 dL_law_764 dL_law_767 dL_law_769 dL_law_774 dL_law_776 dL_law_779 dL_law_780 dL_law_781 dL_law_782 dL_law_784 dL_law_785 dL_law_786 dL_law_791 (by decide) kk) kk
theorem mw_odd : kMw yL_odd cL_odd 5 [(0, 10, 13, 24)] 4 := ⟨(ktb5 57 (by decide +kernel) (by decide +kernel)), (ktb5 56 (by decide +kernel) (by decide +kernel)), (ktb1 0 (by decide +kernel) (by decide +kernel)), ⟨by decide +kernel, by decide +kernel⟩, by decide +kernel⟩
theorem mvm_odd : kMv yX12_odd cX12_odd 6 (some .int) 12 2 := ⟨(ktb7 18 (by decide +kernel) (by decide +kernel)), (ktb7 16 (by decide +kernel) (by decide +kernel)), (ktb7 17 (by decide +kernel) (by decide +kernel)), (ktb1 14 (by decide +kernel) (by decide +kernel)), ⟨_, _, rfl⟩, ⟨by decide +kernel, by decide +kernel⟩, by decide +kernel⟩
theorem lml_120 : Cond.methodLink RL 120 yL_odd ∈ kTBL := (ktb5 55 (by decide +kernel) (by decide +kernel))
theorem lml_122 : Cond.methodLink RL 122 yX12_odd ∈ kTBL := (ktb7 15 (by decide +kernel) (by decide +kernel))
theorem case_odd (R : kRd X n σ A b L xs) (kk : kGo X n A) : kW MLw X 794 (L5 n) [] σ := by
  have hn := R.2.2.1
  exact kCase (pA := 794) (p1 := 808) (p2 := 826) (ys := [(xs (n + 1)).toInt, (xs (n + 2)).toInt]) cw_odd mw_odd lml_120 ⟨rfl, rfl, by decide, by decide⟩ dL_law_808 dL_law_811 c_Md_odd mvm_odd lml_122 ⟨rfl, rfl, by decide, by decide⟩ dL_law_826 dL_law_829 R (kAll2 (kR_i32 _) (kR_i32 _)) rfl (jj_odd (kR_i32 _) (kR_i32 _) R.2.2.2.2.1)
    (fun X CC LC kk => kg_aload_n CC dL_law_794 rfl (kg_scr (j := 1) CC LC (by omega) dL_law_795 dL_law_796 dL_law_798 dL_law_799 dL_law_800 (kg_scr (j := 2) CC LC (by omega) dL_law_801 dL_law_802 dL_law_804 dL_law_805 dL_law_806 (kg_aload_n CC dL_law_807 rfl kk))))
    (fun X k σ CC LC kk => kg_aload_n CC dL_law_813 rfl (kg_scr (j := 1) CC LC (by omega) dL_law_814 dL_law_815 dL_law_817 dL_law_818 dL_law_819 (kg_scr (j := 2) CC LC (by omega) dL_law_820 dL_law_821 dL_law_823 dL_law_824 dL_law_825 kk)))
    (fun X k v σ CC hS hk hv hch e1 e2 kk => kTailI CC hS hk hv e1 e2 dL_law_831 dL_law_832 dL_law_835 dL_law_837 dL_law_842 dL_law_844 dL_law_847 dL_law_848 dL_law_849 dL_law_850 dL_law_852 dL_law_853 dL_law_854 dL_law_859 (by decide) kk) kk
theorem mw_ring : kMw yL_ring cL_ring 4 [(0, 9, 12, 24)] 3 := ⟨(ktb5 78 (by decide +kernel) (by decide +kernel)), (ktb5 77 (by decide +kernel) (by decide +kernel)), (ktb1 0 (by decide +kernel) (by decide +kernel)), ⟨by decide +kernel, by decide +kernel⟩, by decide +kernel⟩
theorem mvm_ring : kMv yX12_ring cX12_ring 2 (some .int) 12 1 := ⟨(ktb7 22 (by decide +kernel) (by decide +kernel)), (ktb7 20 (by decide +kernel) (by decide +kernel)), (ktb7 21 (by decide +kernel) (by decide +kernel)), (ktb1 14 (by decide +kernel) (by decide +kernel)), ⟨_, _, rfl⟩, ⟨by decide +kernel, by decide +kernel⟩, by decide +kernel⟩
theorem lml_123 : Cond.methodLink RL 123 yL_ring ∈ kTBL := (ktb5 76 (by decide +kernel) (by decide +kernel))
theorem lml_125 : Cond.methodLink RL 125 yX12_ring ∈ kTBL := (ktb7 19 (by decide +kernel) (by decide +kernel))
theorem case_ring (R : kRd X n σ A b L xs) (kk : kGo X n A) : kW MLw X 862 (L5 n) [] σ := by
  have hn := R.2.2.1
  exact kCase (pA := 862) (p1 := 870) (p2 := 882) (ys := [(xs (n + 1)).toInt]) cw_ring mw_ring lml_123 ⟨rfl, rfl, by decide, by decide⟩ dL_law_870 dL_law_873 c_Md_ring mvm_ring lml_125 ⟨rfl, rfl, by decide, by decide⟩ dL_law_882 dL_law_885 R (kAll1 (kR_i32 _)) rfl (jj_ring (kR_i32 _) R.2.2.2.2.1)
    (fun X CC LC kk => kg_aload_n CC dL_law_862 rfl (kg_scr (j := 1) CC LC (by omega) dL_law_863 dL_law_864 dL_law_866 dL_law_867 dL_law_868 (kg_aload_n CC dL_law_869 rfl kk)))
    (fun X k σ CC LC kk => kg_aload_n CC dL_law_875 rfl (kg_scr (j := 1) CC LC (by omega) dL_law_876 dL_law_877 dL_law_879 dL_law_880 dL_law_881 kk))
    (fun X k v σ CC hS hk hv hch e1 e2 kk => kTailI CC hS hk hv e1 e2 dL_law_887 dL_law_888 dL_law_891 dL_law_893 dL_law_898 dL_law_900 dL_law_903 dL_law_904 dL_law_905 dL_law_906 dL_law_908 dL_law_909 dL_law_910 dL_law_915 (by decide) kk) kk
theorem mvm_triangles : kMv yX12_triangles cX12_triangles 6 (some .long) 12 0 := ⟨(ktb7 26 (by decide +kernel) (by decide +kernel)), (ktb7 24 (by decide +kernel) (by decide +kernel)), (ktb7 25 (by decide +kernel) (by decide +kernel)), (ktb1 14 (by decide +kernel) (by decide +kernel)), ⟨_, _, rfl⟩, ⟨by decide +kernel, by decide +kernel⟩, by decide +kernel⟩
theorem mvm_KP_triangles : kMv yX11_triangles cX11_triangles 1 (some .long) 11 0 := ⟨(ktb2 209 (by decide +kernel) (by decide +kernel)), (ktb2 207 (by decide +kernel) (by decide +kernel)), (ktb2 208 (by decide +kernel) (by decide +kernel)), (ktb1 1 (by decide +kernel) (by decide +kernel)), ⟨_, _, rfl⟩, ⟨by decide +kernel, by decide +kernel⟩, by decide +kernel⟩
theorem lml_126 : Cond.methodLink RL 126 yX11_triangles ∈ kTBL := (ktb2 206 (by decide +kernel) (by decide +kernel))
theorem lml_130 : Cond.methodLink RL 130 yX12_triangles ∈ kTBL := (ktb7 23 (by decide +kernel) (by decide +kernel))
theorem mw_planPut : kMw yL_planPut cL_planPut 5 [(0, 10, 13, 24), (0, 10, 17, 13)] 4 := ⟨(ktb5 90 (by decide +kernel) (by decide +kernel)), (ktb5 89 (by decide +kernel) (by decide +kernel)), (ktb1 0 (by decide +kernel) (by decide +kernel)), ⟨by decide +kernel, by decide +kernel⟩, by decide +kernel⟩
theorem mvm_planPut : kMv yX12_planPut cX12_planPut 3 (some .int) 12 2 := ⟨(ktb7 30 (by decide +kernel) (by decide +kernel)), (ktb7 28 (by decide +kernel) (by decide +kernel)), (ktb7 29 (by decide +kernel) (by decide +kernel)), (ktb1 14 (by decide +kernel) (by decide +kernel)), ⟨_, _, rfl⟩, ⟨by decide +kernel, by decide +kernel⟩, by decide +kernel⟩
theorem lml_131 : Cond.methodLink RL 131 yL_planPut ∈ kTBL := (ktb5 88 (by decide +kernel) (by decide +kernel))
theorem lml_133 : Cond.methodLink RL 133 yX12_planPut ∈ kTBL := (ktb7 27 (by decide +kernel) (by decide +kernel))
theorem case_planPut (R : kRd X n σ A b L xs) (kk : kGo X n A) : kW MLw X 932 (L5 n) [] σ := by
  have hn := R.2.2.1
  exact kCase (pA := 932) (p1 := 946) (p2 := 964) (ys := [(xs (n + 1)).toInt, (xs (n + 2)).toInt]) cw_planPut mw_planPut lml_131 ⟨rfl, rfl, by decide, by decide⟩ dL_law_946 dL_law_949 c_Md_planPut mvm_planPut lml_133 ⟨rfl, rfl, by decide, by decide⟩ dL_law_964 dL_law_967 R (kAll2 (kR_i32 _) (kR_i32 _)) rfl (jj_planPut (kR_i32 _) (kR_i32 _) R.2.2.2.2.1)
    (fun X CC LC kk => kg_aload_n CC dL_law_932 rfl (kg_scr (j := 1) CC LC (by omega) dL_law_933 dL_law_934 dL_law_936 dL_law_937 dL_law_938 (kg_scr (j := 2) CC LC (by omega) dL_law_939 dL_law_940 dL_law_942 dL_law_943 dL_law_944 (kg_aload_n CC dL_law_945 rfl kk))))
    (fun X k σ CC LC kk => kg_aload_n CC dL_law_951 rfl (kg_scr (j := 1) CC LC (by omega) dL_law_952 dL_law_953 dL_law_955 dL_law_956 dL_law_957 (kg_scr (j := 2) CC LC (by omega) dL_law_958 dL_law_959 dL_law_961 dL_law_962 dL_law_963 kk)))
    (fun X k v σ CC hS hk hv hch e1 e2 kk => kTailI CC hS hk hv e1 e2 dL_law_969 dL_law_970 dL_law_973 dL_law_975 dL_law_980 dL_law_982 dL_law_985 dL_law_986 dL_law_987 dL_law_988 dL_law_990 dL_law_991 dL_law_992 dL_law_997 (by decide) kk) kk
theorem mw_planTake : kMw yL_planTake cL_planTake 4 [(0, 9, 12, 24), (0, 9, 15, 60), (0, 9, 18, 13)] 3 := ⟨(ktb5 106 (by decide +kernel) (by decide +kernel)), (ktb5 105 (by decide +kernel) (by decide +kernel)), (ktb1 0 (by decide +kernel) (by decide +kernel)), ⟨by decide +kernel, by decide +kernel⟩, by decide +kernel⟩
theorem mvm_planTake : kMv yX12_planTake cX12_planTake 2 (some .int) 12 1 := ⟨(ktb7 34 (by decide +kernel) (by decide +kernel)), (ktb7 32 (by decide +kernel) (by decide +kernel)), (ktb7 33 (by decide +kernel) (by decide +kernel)), (ktb1 14 (by decide +kernel) (by decide +kernel)), ⟨_, _, rfl⟩, ⟨by decide +kernel, by decide +kernel⟩, by decide +kernel⟩
theorem lml_134 : Cond.methodLink RL 134 yL_planTake ∈ kTBL := (ktb5 104 (by decide +kernel) (by decide +kernel))
theorem lml_136 : Cond.methodLink RL 136 yX12_planTake ∈ kTBL := (ktb7 31 (by decide +kernel) (by decide +kernel))
theorem case_planTake (R : kRd X n σ A b L xs) (kk : kGo X n A) : kW MLw X 1000 (L5 n) [] σ := by
  have hn := R.2.2.1
  exact kCase (pA := 1000) (p1 := 1008) (p2 := 1020) (ys := [(xs (n + 1)).toInt]) cw_planTake mw_planTake lml_134 ⟨rfl, rfl, by decide, by decide⟩ dL_law_1008 dL_law_1011 c_Md_planTake mvm_planTake lml_136 ⟨rfl, rfl, by decide, by decide⟩ dL_law_1020 dL_law_1023 R (kAll1 (kR_i32 _)) rfl (jj_planTake (kR_i32 _) R.2.2.2.2.1)
    (fun X CC LC kk => kg_aload_n CC dL_law_1000 rfl (kg_scr (j := 1) CC LC (by omega) dL_law_1001 dL_law_1002 dL_law_1004 dL_law_1005 dL_law_1006 (kg_aload_n CC dL_law_1007 rfl kk)))
    (fun X k σ CC LC kk => kg_aload_n CC dL_law_1013 rfl (kg_scr (j := 1) CC LC (by omega) dL_law_1014 dL_law_1015 dL_law_1017 dL_law_1018 dL_law_1019 kk))
    (fun X k v σ CC hS hk hv hch e1 e2 kk => kTailI CC hS hk hv e1 e2 dL_law_1025 dL_law_1026 dL_law_1029 dL_law_1031 dL_law_1036 dL_law_1038 dL_law_1041 dL_law_1042 dL_law_1043 dL_law_1044 dL_law_1046 dL_law_1047 dL_law_1048 dL_law_1053 (by decide) kk) kk
theorem mw_later : kMw yL_later cL_later 5 [(0, 10, 13, 24), (0, 10, 17, 18)] 4 := ⟨(ktb5 143 (by decide +kernel) (by decide +kernel)), (ktb5 142 (by decide +kernel) (by decide +kernel)), (ktb1 0 (by decide +kernel) (by decide +kernel)), ⟨by decide +kernel, by decide +kernel⟩, by decide +kernel⟩
theorem mvm_later : kMv yX12_later cX12_later 7 (some .int) 12 2 := ⟨(ktb7 42 (by decide +kernel) (by decide +kernel)), (ktb7 40 (by decide +kernel) (by decide +kernel)), (ktb7 41 (by decide +kernel) (by decide +kernel)), (ktb1 14 (by decide +kernel) (by decide +kernel)), ⟨_, _, rfl⟩, ⟨by decide +kernel, by decide +kernel⟩, by decide +kernel⟩
theorem lml_137 : Cond.methodLink RL 137 yL_later ∈ kTBL := (ktb5 141 (by decide +kernel) (by decide +kernel))
theorem lml_139 : Cond.methodLink RL 139 yX12_later ∈ kTBL := (ktb7 39 (by decide +kernel) (by decide +kernel))
theorem case_later (R : kRd X n σ A b L xs) (kk : kGo X n A) : kW MLw X 1056 (L5 n) [] σ := by
  have hn := R.2.2.1
  exact kCase (pA := 1056) (p1 := 1070) (p2 := 1088) (ys := [(xs (n + 1)).toInt, (xs (n + 2)).toInt]) cw_later mw_later lml_137 ⟨rfl, rfl, by decide, by decide⟩ dL_law_1070 dL_law_1073 c_Md_later mvm_later lml_139 ⟨rfl, rfl, by decide, by decide⟩ dL_law_1088 dL_law_1091 R (kAll2 (kR_i32 _) (kR_i32 _)) rfl (jj_later (kR_i32 _) (kR_i32 _) R.2.2.2.2.1)
    (fun X CC LC kk => kg_aload_n CC dL_law_1056 rfl (kg_scr (j := 1) CC LC (by omega) dL_law_1057 dL_law_1058 dL_law_1060 dL_law_1061 dL_law_1062 (kg_scr (j := 2) CC LC (by omega) dL_law_1063 dL_law_1064 dL_law_1066 dL_law_1067 dL_law_1068 (kg_aload_n CC dL_law_1069 rfl kk))))
    (fun X k σ CC LC kk => kg_aload_n CC dL_law_1075 rfl (kg_scr (j := 1) CC LC (by omega) dL_law_1076 dL_law_1077 dL_law_1079 dL_law_1080 dL_law_1081 (kg_scr (j := 2) CC LC (by omega) dL_law_1082 dL_law_1083 dL_law_1085 dL_law_1086 dL_law_1087 kk)))
    (fun X k v σ CC hS hk hv hch e1 e2 kk => kTailI CC hS hk hv e1 e2 dL_law_1093 dL_law_1094 dL_law_1097 dL_law_1099 dL_law_1104 dL_law_1106 dL_law_1109 dL_law_1110 dL_law_1111 dL_law_1112 dL_law_1114 dL_law_1115 dL_law_1116 dL_law_1121 (by decide) kk) kk
theorem mw_laterJoined : kMw yL_laterJoined cL_laterJoined 6 [(0, 19, 22, 24)] 5 := ⟨(ktb5 165 (by decide +kernel) (by decide +kernel)), (ktb5 164 (by decide +kernel) (by decide +kernel)), (ktb1 0 (by decide +kernel) (by decide +kernel)), ⟨by decide +kernel, by decide +kernel⟩, by decide +kernel⟩
theorem mvm_laterJoined : kMv yX12_laterJoined cX12_laterJoined 4 (some .boolean) 12 3 := ⟨(ktb7 54 (by decide +kernel) (by decide +kernel)), (ktb7 52 (by decide +kernel) (by decide +kernel)), (ktb7 53 (by decide +kernel) (by decide +kernel)), (ktb1 14 (by decide +kernel) (by decide +kernel)), ⟨_, _, rfl⟩, ⟨by decide +kernel, by decide +kernel⟩, by decide +kernel⟩
theorem lml_140 : Cond.methodLink RL 140 yL_laterJoined ∈ kTBL := (ktb5 163 (by decide +kernel) (by decide +kernel))
theorem lml_143 : Cond.methodLink RL 143 yX12_laterJoined ∈ kTBL := (ktb7 51 (by decide +kernel) (by decide +kernel))
theorem case_laterJoined (R : kRd X n σ A b L xs) (kk : kGo X n A) : kW MLw X 1124 (L5 n) [] σ := by
  have hn := R.2.2.1
  exact kCase (pA := 1124) (p1 := 1144) (p2 := 1168) (ys := [(xs (n + 1)).toInt, (xs (n + 2)).toInt, (xs (n + 3)).toInt]) cw_laterJoined mw_laterJoined lml_140 ⟨rfl, rfl, by decide, by decide⟩ dL_law_1144 dL_law_1147 c_Md_laterJoined mvm_laterJoined lml_143 ⟨rfl, rfl, by decide, by decide⟩ dL_law_1168 dL_law_1171 R (kAll3 (kR_i32 _) (kR_i32 _) (kR_i32 _)) rfl (jj_laterJoined (kR_i32 _) (kR_i32 _) (kR_i32 _) R.2.2.2.2.1)
    (fun X CC LC kk => kg_aload_n CC dL_law_1124 rfl (kg_scr (j := 1) CC LC (by omega) dL_law_1125 dL_law_1126 dL_law_1128 dL_law_1129 dL_law_1130 (kg_scr (j := 2) CC LC (by omega) dL_law_1131 dL_law_1132 dL_law_1134 dL_law_1135 dL_law_1136 (kg_scr (j := 3) CC LC (by omega) dL_law_1137 dL_law_1138 dL_law_1140 dL_law_1141 dL_law_1142 (kg_aload_n CC dL_law_1143 rfl kk)))))
    (fun X k σ CC LC kk => kg_aload_n CC dL_law_1149 rfl (kg_scr (j := 1) CC LC (by omega) dL_law_1150 dL_law_1151 dL_law_1153 dL_law_1154 dL_law_1155 (kg_scr (j := 2) CC LC (by omega) dL_law_1156 dL_law_1157 dL_law_1159 dL_law_1160 dL_law_1161 (kg_scr (j := 3) CC LC (by omega) dL_law_1162 dL_law_1163 dL_law_1165 dL_law_1166 dL_law_1167 kk))))
    (fun X k v σ CC hS hk hv hch e1 e2 kk => kTailZ CC hS hk (by simpa [kZ] using hch) e1 e2 dL_law_1173 dL_law_1174 dL_law_1177 dL_law_1179 dL_law_1184 dL_law_1186 dL_law_1189 dL_law_1190 dL_law_1191 dL_law_1192 dL_law_1194 dL_law_1197 dL_law_1198 dL_law_1201 dL_law_1202 dL_law_1203 dL_law_1208 (by decide) kk) kk
theorem mvm_drop : kMv yX12_drop cX12_drop 2 (some .int) 12 0 := ⟨(ktb7 58 (by decide +kernel) (by decide +kernel)), (ktb7 56 (by decide +kernel) (by decide +kernel)), (ktb7 57 (by decide +kernel) (by decide +kernel)), (ktb1 14 (by decide +kernel) (by decide +kernel)), ⟨_, _, rfl⟩, ⟨by decide +kernel, by decide +kernel⟩, by decide +kernel⟩
theorem mvm_KP_drop : kMv yX11_drop cX11_drop 1 (some .int) 11 0 := ⟨(ktb3 18 (by decide +kernel) (by decide +kernel)), (ktb3 16 (by decide +kernel) (by decide +kernel)), (ktb3 17 (by decide +kernel) (by decide +kernel)), (ktb1 1 (by decide +kernel) (by decide +kernel)), ⟨_, _, rfl⟩, ⟨by decide +kernel, by decide +kernel⟩, by decide +kernel⟩
theorem lml_144 : Cond.methodLink RL 144 yX11_drop ∈ kTBL := (ktb3 15 (by decide +kernel) (by decide +kernel))
theorem lml_147 : Cond.methodLink RL 147 yX12_drop ∈ kTBL := (ktb7 55 (by decide +kernel) (by decide +kernel))
theorem mw_told : kMw yL_told cL_told 4 [(0, 9, 12, 18)] 3 := ⟨(ktb5 174 (by decide +kernel) (by decide +kernel)), (ktb5 173 (by decide +kernel) (by decide +kernel)), (ktb1 0 (by decide +kernel) (by decide +kernel)), ⟨by decide +kernel, by decide +kernel⟩, by decide +kernel⟩
theorem mvm_told : kMv yX12_told cX12_told 4 (some .int) 12 1 := ⟨(ktb7 62 (by decide +kernel) (by decide +kernel)), (ktb7 60 (by decide +kernel) (by decide +kernel)), (ktb7 61 (by decide +kernel) (by decide +kernel)), (ktb1 14 (by decide +kernel) (by decide +kernel)), ⟨_, _, rfl⟩, ⟨by decide +kernel, by decide +kernel⟩, by decide +kernel⟩
theorem lml_148 : Cond.methodLink RL 148 yL_told ∈ kTBL := (ktb5 172 (by decide +kernel) (by decide +kernel))
theorem lml_150 : Cond.methodLink RL 150 yX12_told ∈ kTBL := (ktb7 59 (by decide +kernel) (by decide +kernel))
theorem case_told (R : kRd X n σ A b L xs) (kk : kGo X n A) : kW MLw X 1224 (L5 n) [] σ := by
  have hn := R.2.2.1
  exact kCase (pA := 1224) (p1 := 1232) (p2 := 1244) (ys := [(xs (n + 1)).toInt]) cw_told mw_told lml_148 ⟨rfl, rfl, by decide, by decide⟩ dL_law_1232 dL_law_1235 c_Md_told mvm_told lml_150 ⟨rfl, rfl, by decide, by decide⟩ dL_law_1244 dL_law_1247 R (kAll1 (kR_i32 _)) rfl (jj_told (kR_i32 _) R.2.2.2.2.1)
    (fun X CC LC kk => kg_aload_n CC dL_law_1224 rfl (kg_scr (j := 1) CC LC (by omega) dL_law_1225 dL_law_1226 dL_law_1228 dL_law_1229 dL_law_1230 (kg_aload_n CC dL_law_1231 rfl kk)))
    (fun X k σ CC LC kk => kg_aload_n CC dL_law_1237 rfl (kg_scr (j := 1) CC LC (by omega) dL_law_1238 dL_law_1239 dL_law_1241 dL_law_1242 dL_law_1243 kk))
    (fun X k v σ CC hS hk hv hch e1 e2 kk => kTailI CC hS hk hv e1 e2 dL_law_1249 dL_law_1250 dL_law_1253 dL_law_1255 dL_law_1260 dL_law_1262 dL_law_1265 dL_law_1266 dL_law_1267 dL_law_1268 dL_law_1270 dL_law_1271 dL_law_1272 dL_law_1277 (by decide) kk) kk
theorem mvm_sound : kMv yX12_sound cX12_sound 5 (some .boolean) 12 0 := ⟨(ktb7 70 (by decide +kernel) (by decide +kernel)), (ktb7 68 (by decide +kernel) (by decide +kernel)), (ktb7 69 (by decide +kernel) (by decide +kernel)), (ktb1 14 (by decide +kernel) (by decide +kernel)), ⟨_, _, rfl⟩, ⟨by decide +kernel, by decide +kernel⟩, by decide +kernel⟩
theorem mvm_KP_sound : kMv yX11_sound cX11_sound 1 (some .boolean) 11 0 := ⟨(ktb3 30 (by decide +kernel) (by decide +kernel)), (ktb3 28 (by decide +kernel) (by decide +kernel)), (ktb3 29 (by decide +kernel) (by decide +kernel)), (ktb1 1 (by decide +kernel) (by decide +kernel)), ⟨_, _, rfl⟩, ⟨by decide +kernel, by decide +kernel⟩, by decide +kernel⟩
theorem lml_151 : Cond.methodLink RL 151 yX11_sound ∈ kTBL := (ktb3 27 (by decide +kernel) (by decide +kernel))
theorem lml_155 : Cond.methodLink RL 155 yX12_sound ∈ kTBL := (ktb7 67 (by decide +kernel) (by decide +kernel))
theorem mvm_clear : kMv yX12_clear cX12_clear 1 none 12 0 := ⟨(ktb7 75 (by decide +kernel) (by decide +kernel)), (ktb7 73 (by decide +kernel) (by decide +kernel)), (ktb7 74 (by decide +kernel) (by decide +kernel)), (ktb1 14 (by decide +kernel) (by decide +kernel)), ⟨_, _, rfl⟩, ⟨by decide +kernel, by decide +kernel⟩, by decide +kernel⟩
theorem mvm_KP_clear : kMv yX11_clear cX11_clear 1 none 11 0 := ⟨(ktb3 104 (by decide +kernel) (by decide +kernel)), (ktb3 102 (by decide +kernel) (by decide +kernel)), (ktb3 103 (by decide +kernel) (by decide +kernel)), (ktb1 1 (by decide +kernel) (by decide +kernel)), ⟨_, _, rfl⟩, ⟨by decide +kernel, by decide +kernel⟩, by decide +kernel⟩
theorem lml_156 : Cond.methodLink RL 156 yX11_clear ∈ kTBL := (ktb3 101 (by decide +kernel) (by decide +kernel))
theorem lml_159 : Cond.methodLink RL 159 yX12_clear ∈ kTBL := (ktb7 72 (by decide +kernel) (by decide +kernel))
theorem kCase2 {yK yM : MethodName} {ccK ccM : ByteArray} {nLK nLM idx1 idx2 pA : Nat} {rmK rmM : Room} {ty : FieldType} {FK FM : kFn}
    (hcK : kCon yK ccK nLK (some ty) rmK FK) (hvK : kMv yK ccK nLK (some ty) 11 0) (hl1 : Cond.methodLink RL idx1 yK ∈ kTBL) (hR1 : rmK.cells = 0 ∧ rmK.slots = 0 ∧ rmK.frames + 1 ≤ 10 ∧ 8 + (nLK + 11) + rmK.locals ≤ 364)
    (hcM : kCon yM ccM nLM (some ty) rmM FM) (hvM : kMv yM ccM nLM (some ty) 12 0) (hl2 : Cond.methodLink RL idx2 yM ∈ kTBL) (hR2 : rmM.cells = 0 ∧ rmM.slots = 0 ∧ rmM.frames + 1 ≤ 10 ∧ 8 + (nLM + 11) + rmM.locals ≤ 364)
    (d0 : decode cL_law pA = .ok (.aload_n 1, 1)) (d1 : decode cL_law (pA + 1) = .ok (.invokevirtual idx1, 3)) (d4 : decode cL_law (pA + 4) = .ok (.aload_n 2, 1)) (d5 : decode cL_law (pA + 5) = .ok (.invokevirtual idx2, 3))
    (R : kRd X n σ A b L xs) {chk : Option kV → Bool} (hj : ∃ (v : kV) (σ1 σ2 : kS), FK [.inr (.inl 0)] σ = some (some v, σ1) ∧ chk (some v) = true ∧ FM [.inr (.inl 14)] σ1 = some (some v, σ2) ∧ JV σ2 (A + 600))
    (kk : ∀ (v : kV) (σ2 : kS), kVV v → chk (some v) = true → kVS σ2 → JV σ2 (A + 600) → kW MLw X (pA + 8) (L5 n) [v, v] σ2) : kW MLw X pA (L5 n) [] σ := by
  obtain ⟨⟨CC, -⟩, LC, hn, hS, hJ, hA, hcl, hsl⟩ := R
  obtain ⟨v, σ1, σ2, hK, hch, hM, hJ2⟩ := hj
  obtain ⟨hv, hS1, g1⟩ := kg_callV (M := MLw) (pc := pA + 1) (L := L5 n) (st := []) hcK hvK hl1 hR1 d1 (by decide) rfl kVV_r hS rfl hK
  obtain ⟨-, hS2, g2⟩ := kg_callV (M := MLw) (pc := pA + 5) (L := L5 n) (st := [v]) hcM hvM hl2 hR2 d5 (by show 1 ≤ 4; decide) rfl kVV_r hS1 rfl hM
  refine kg_aload_n CC d0 rfl (g1 X CC ?_)
  refine kg_aload_n CC d4 rfl (g2 X CC ?_)
  exact kk v σ2 (hv _ rfl) hch hS2 hJ2
theorem case_triangles (R : kRd X n σ A b L xs) (kk : kGo X n A) : kW MLw X 918 (L5 n) [] σ := by
  have CC := R.1.1
  refine kCase2 c_KP_triangles mvm_KP_triangles lml_126 ⟨rfl, rfl, by decide, by decide⟩ c_Md_triangles mvm_triangles lml_130 ⟨rfl, rfl, by decide, by decide⟩ dL_law_918 dL_law_919 dL_law_922 dL_law_923 R (jj_triangles R.2.2.2.2.1) (fun v σ2 hv hch hS hJ => ?_)
  rcases v with z | o | z
  · cases hch
  · cases hch
  · refine kg_lcmp CC hv hv dL_law_926 ?_
    refine kg_if_eq (tgt := 1304) CC ?_ dL_law_927 (by decide) (kW_t kcmp_self (kW_up (kk σ2 hS hJ)))
    unfold kcmp3 kR32
    split <;> (try split) <;> omega
theorem case_drop (R : kRd X n σ A b L xs) (kk : kGo X n A) : kW MLw X 1211 (L5 n) [] σ := by
  have CC := R.1.1
  refine kCase2 c_KP_drop mvm_KP_drop lml_144 ⟨rfl, rfl, by decide, by decide⟩ c_Md_drop mvm_drop lml_147 ⟨rfl, rfl, by decide, by decide⟩ dL_law_1211 dL_law_1212 dL_law_1215 dL_law_1216 R (jj_drop R.2.2.2.2.1) (fun v σ2 hv hch hS hJ => ?_)
  rcases v with z | o | z
  · exact kg_icmp_eq (tgt := 1304) CC hv hv dL_law_1219 (by decide) (kW_t (decide_eq_true rfl) (kW_up (kk σ2 hS hJ)))
  · cases hch
  · cases hch
theorem case_sound (R : kRd X n σ A b L xs) (kk : kGo X n A) : kW MLw X 1280 (L5 n) [] σ := by
  have CC := R.1.1
  refine kCase2 c_KP_sound mvm_KP_sound lml_151 ⟨rfl, rfl, by decide, by decide⟩ c_Md_sound mvm_sound lml_155 ⟨rfl, rfl, by decide, by decide⟩ dL_law_1280 dL_law_1281 dL_law_1284 dL_law_1285 R (jj_sound R.2.2.2.2.1) (fun v σ2 hv hch hS hJ => ?_)
  rcases v with z | o | z
  · exact kg_icmp_eq (tgt := 1304) CC hv hv dL_law_1288 (by decide) (kW_t (decide_eq_true rfl) (kW_up (kk σ2 hS hJ)))
  · cases hch
  · cases hch
theorem case_clear (R : kRd X n σ A b L xs) (kk : kGo X n A) : kW MLw X 1293 (L5 n) [] σ := by
  obtain ⟨⟨CC, -⟩, LC, hn, hS, hJ, hA, hcl, hsl⟩ := R
  obtain ⟨r, L', σ1, hK, rfl, r', σ2, hM, rfl, hJ2⟩ := jClear (A := A) (by omega) hJ
  have hK2 : F_KP_clear [.inr (.inl 0)] σ = some (none, σ1) := by
    unfold F_KP_clear kF
    rw [if_pos ⟨rfl, rfl⟩]
    show (s_KP_clear [some (.inr (.inl 0))] σ).bind _ = _
    rw [hK]
    rfl
  obtain ⟨-, hS1, g1⟩ := kg_callV (M := MLw) (pc := 1294) (L := L5 n) (st := []) c_KP_clear mvm_KP_clear lml_156 ⟨rfl, rfl, Nat.le_of_ble_eq_true rfl, Nat.le_of_ble_eq_true rfl⟩ dL_law_1294 (by decide) rfl kVV_r hS rfl hK2
  obtain ⟨-, hS2, g2⟩ := kg_callV (M := MLw) (pc := 1298) (L := L5 n) (st := []) c_Md_clear mvm_clear lml_159 ⟨rfl, rfl, Nat.le_of_ble_eq_true rfl, Nat.le_of_ble_eq_true rfl⟩ dL_law_1298 (by decide) rfl kVV_r hS1 rfl hM
  refine kg_aload_n CC dL_law_1293 rfl (g1 X CC ?_)
  refine kg_aload_n CC dL_law_1297 rfl (g2 X CC ?_)
  exact kg_goto (tgt := 1304) CC dL_law_1301 (by decide) (kW_up (kk σ2 hS2 (hJ2.mono (by omega))))
end CS
