/-! links: fields, methods -/
theorem ktb0 {w : Cond} (n : Nat) (h : (k2_sels lw_privs)[n]? = some w) (hg : goodWord w = true) : w ∈ kTBL := List.mem_filter.mpr ⟨List.mem_append_left _ (List.mem_of_getElem? h), hg⟩
theorem ktb_of {w : Cond} (h : w ∈ tables_1) (hg : goodWord w = true) : w ∈ kTBL := List.mem_filter.mpr ⟨List.mem_append_right _ h, hg⟩
theorem ktb1 {w : Cond} (n : Nat) (h : tables_1_1[n]? = some w) (hg : goodWord w = true) : w ∈ kTBL := ktb_of (List.mem_append_left _ (List.mem_of_getElem? h)) hg
theorem ktb2 {w : Cond} (n : Nat) (h : tables_1_2[n]? = some w) (hg : goodWord w = true) : w ∈ kTBL := ktb_of (List.mem_append_right _ (List.mem_append_left _ (List.mem_of_getElem? h))) hg
theorem ktb3 {w : Cond} (n : Nat) (h : tables_1_3[n]? = some w) (hg : goodWord w = true) : w ∈ kTBL := ktb_of (List.mem_append_right _ (List.mem_append_right _ (List.mem_append_left _ (List.mem_of_getElem? h)))) hg
theorem ktb4 {w : Cond} (n : Nat) (h : tables_1_4[n]? = some w) (hg : goodWord w = true) : w ∈ kTBL := ktb_of (List.mem_append_right _ (List.mem_append_right _ (List.mem_append_right _ (List.mem_append_left _ (List.mem_of_getElem? h))))) hg
theorem ktb5 {w : Cond} (n : Nat) (h : tables_1_5[n]? = some w) (hg : goodWord w = true) : w ∈ kTBL := ktb_of (List.mem_append_right _ (List.mem_append_right _ (List.mem_append_right _ (List.mem_append_right _ (List.mem_append_left _ (List.mem_of_getElem? h)))))) hg
theorem ktb6 {w : Cond} (n : Nat) (h : tables_1_6[n]? = some w) (hg : goodWord w = true) : w ∈ kTBL := ktb_of (List.mem_append_right _ (List.mem_append_right _ (List.mem_append_right _ (List.mem_append_right _ (List.mem_append_right _ (List.mem_append_left _ (List.mem_of_getElem? h))))))) hg
theorem ktb7 {w : Cond} (n : Nat) (h : tables_1_7[n]? = some w) (hg : goodWord w = true) : w ∈ kTBL := ktb_of (List.mem_append_right _ (List.mem_append_right _ (List.mem_append_right _ (List.mem_append_right _ (List.mem_append_right _ (List.mem_append_right _ (List.mem_of_getElem? h))))))) hg
theorem kfl_of {ci N k : Nat} {ty0 : Nat → FieldType} (h : (kY.all fun e => match e with
    | .inl (c, fl) => c != ci || (fl.length == N && (match fl[k]? with
      | some (.inr false) => decide (ty0 k = .int)
      | some (.inr true) => decide (ty0 k = .long)
      | _ => true))
    | _ => true) = true) : ∀ (o : Nat) (fl : List (Nat ⊕ Bool)), kY[o]? = some (.inl (ci, fl)) → fl.length = N ∧ (fl[k]? = some (.inr false) → ty0 k = .int) ∧ (fl[k]? = some (.inr true) → ty0 k = .long) := by
  intro o fl ho
  have h1 := List.all_eq_true.mp h _ (List.mem_of_getElem? ho)
  simp only [bne_self_eq_false, Bool.false_or, Bool.and_eq_true, beq_iff_eq] at h1
  refine ⟨h1.1, fun hf => ?_, fun hf => ?_⟩ <;> (have h2 := h1.2; rw [hf] at h2; simpa using h2)
theorem mw_max : Cond.static Lib.Math.max.name ∈ kTBL ∧ Cond.initialized "java/lang/Math" ∈ kTBL ∧ Cond.code Lib.Math.max.name Lib.Math.max.code 2 (some .int) ∈ kTBL := ⟨(ktb3 59 (by decide +kernel) (by decide +kernel)), (ktb1 21 (by decide +kernel) (by decide +kernel)), (ktb3 60 (by decide +kernel) (by decide +kernel))⟩
theorem mw_min : Cond.static Lib.Math.min.name ∈ kTBL ∧ Cond.initialized "java/lang/Math" ∈ kTBL ∧ Cond.code Lib.Math.min.name Lib.Math.min.code 2 (some .int) ∈ kTBL := ⟨(ktb3 40 (by decide +kernel) (by decide +kernel)), (ktb1 21 (by decide +kernel) (by decide +kernel)), (ktb3 41 (by decide +kernel) (by decide +kernel))⟩
set_option maxRecDepth 20000 in
theorem lM_RX2_32 : Cond.methodLink RX2 32 Lib.Math.min.name ∈ kTBL := (ktb3 39 (by decide +kernel) (by decide +kernel))
set_option maxRecDepth 20000 in
theorem lM_RX2_52 : Cond.methodLink RX2 52 Lib.Math.max.name ∈ kTBL := (ktb3 58 (by decide +kernel) (by decide +kernel))
set_option maxRecDepth 20000 in
theorem lM_RX6_43 : Cond.methodLink RX6 43 Lib.Math.max.name ∈ kTBL := (ktb5 205 (by decide +kernel) (by decide +kernel))
set_option maxRecDepth 20000 in
theorem lM_RX7_75 : Cond.methodLink RX7 75 Lib.Math.min.name ∈ kTBL := (ktb5 3 (by decide +kernel) (by decide +kernel))
set_option maxRecDepth 20000 in
theorem lM_RX8_57 : Cond.methodLink RX8 57 Lib.Math.max.name ∈ kTBL := (ktb3 73 (by decide +kernel) (by decide +kernel))
set_option maxRecDepth 20000 in
theorem lf_RX0_15 : kGf RX0 15 0 2 := ⟨RX0, TX0, 4, "KeptParts$Chosen", "ranked", "[I", rfl, kin_0, by decide, (ktb2 85 (by decide +kernel) (by decide +kernel)), rfl⟩
set_option maxRecDepth 20000 in
theorem lf_RX0_18 : kGf RX0 18 0 3 := ⟨RX0, TX0, 4, "KeptParts$Chosen", "in", "[Z", rfl, kin_0, by decide, (ktb2 86 (by decide +kernel) (by decide +kernel)), rfl⟩
set_option maxRecDepth 20000 in
theorem lf_RX0_22 : kGf RX0 22 0 0 := ⟨RX0, TX0, 4, "KeptParts$Chosen", "web", "LKeptParts$Web;", rfl, kin_0, by decide, (ktb2 83 (by decide +kernel) (by decide +kernel)), rfl⟩
set_option maxRecDepth 20000 in
theorem lf_RX0_26 : kGf RX0 26 10 3 := ⟨RX10, TX10, 10, "KeptParts$Web", "nodes", "I", rfl, kin_10, by decide, (ktb1 90 (by decide +kernel) (by decide +kernel)), rfl⟩
set_option maxRecDepth 20000 in
theorem lf_RX0_9 : kGf RX0 9 0 1 := ⟨RX0, TX0, 4, "KeptParts$Chosen", "weight", "[I", rfl, kin_0, by decide, (ktb2 84 (by decide +kernel) (by decide +kernel)), rfl⟩
set_option maxRecDepth 20000 in
theorem lf_RX10_15 : kGf RX10 15 10 1 := ⟨RX10, TX10, 10, "KeptParts$Web", "second", "[I", rfl, kin_10, by decide, (ktb1 71 (by decide +kernel) (by decide +kernel)), rfl⟩
set_option maxRecDepth 20000 in
theorem lf_RX10_18 : kGf RX10 18 10 2 := ⟨RX10, TX10, 10, "KeptParts$Web", "list", "[I", rfl, kin_10, by decide, (ktb1 79 (by decide +kernel) (by decide +kernel)), rfl⟩
set_option maxRecDepth 20000 in
theorem lf_RX10_24 : kGf RX10 24 10 6 := ⟨RX10, TX10, 10, "KeptParts$Web", "out", "LKeptParts$Fan;", rfl, kin_10, by decide, (ktb1 106 (by decide +kernel) (by decide +kernel)), rfl⟩
set_option maxRecDepth 20000 in
theorem lf_RX10_28 : kGf RX10 28 10 7 := ⟨RX10, TX10, 10, "KeptParts$Web", "in", "LKeptParts$Fan;", rfl, kin_10, by decide, (ktb1 109 (by decide +kernel) (by decide +kernel)), rfl⟩
set_option maxRecDepth 20000 in
theorem lf_RX10_31 : kGf RX10 31 10 8 := ⟨RX10, TX10, 10, "KeptParts$Web", "here", "[Z", rfl, kin_10, by decide, (ktb1 112 (by decide +kernel) (by decide +kernel)), rfl⟩
set_option maxRecDepth 20000 in
theorem lf_RX10_35 : kGf RX10 35 10 3 := ⟨RX10, TX10, 10, "KeptParts$Web", "nodes", "I", rfl, kin_10, by decide, (ktb1 86 (by decide +kernel) (by decide +kernel)), rfl⟩
set_option maxRecDepth 20000 in
theorem lf_RX10_39 : kGf RX10 39 10 9 := ⟨RX10, TX10, 10, "KeptParts$Web", "numbers", "I", rfl, kin_10, by decide, (ktb1 113 (by decide +kernel) (by decide +kernel)), rfl⟩
set_option maxRecDepth 20000 in
theorem lf_RX10_42 : kGf RX10 42 10 4 := ⟨RX10, TX10, 10, "KeptParts$Web", "count", "I", rfl, kin_10, by decide, (ktb1 96 (by decide +kernel) (by decide +kernel)), rfl⟩
set_option maxRecDepth 20000 in
theorem lf_RX10_48 : kGf RX10 48 10 5 := ⟨RX10, TX10, 10, "KeptParts$Web", "age", "I", rfl, kin_10, by decide, (ktb1 104 (by decide +kernel) (by decide +kernel)), rfl⟩
set_option maxRecDepth 20000 in
theorem lf_RX10_65 : kGf RX10 65 1 1 := ⟨RX1, TX1, 4, "KeptParts$Fan", "start", "[I", rfl, kin_1, by decide, (ktb1 49 (by decide +kernel) (by decide +kernel)), rfl⟩
set_option maxRecDepth 20000 in
theorem lf_RX10_68 : kGf RX10 68 1 0 := ⟨RX1, TX1, 4, "KeptParts$Fan", "arcs", "[I", rfl, kin_1, by decide, (ktb1 45 (by decide +kernel) (by decide +kernel)), rfl⟩
set_option maxRecDepth 20000 in
theorem lf_RX10_9 : kGf RX10 9 10 0 := ⟨RX10, TX10, 10, "KeptParts$Web", "first", "[I", rfl, kin_10, by decide, (ktb1 63 (by decide +kernel) (by decide +kernel)), rfl⟩
set_option maxRecDepth 20000 in
theorem lf_RX11_156 : kGf RX11 156 10 0 := ⟨RX10, TX10, 10, "KeptParts$Web", "first", "[I", rfl, kin_10, by decide, (ktb1 66 (by decide +kernel) (by decide +kernel)), rfl⟩
set_option maxRecDepth 20000 in
theorem lf_RX11_16 : kGf RX11 16 11 1 := ⟨RX11, TX11, 13, "KeptParts", "web", "LKeptParts$Web;", rfl, kin_11, by decide, (ktb2 167 (by decide +kernel) (by decide +kernel)), rfl⟩
set_option maxRecDepth 20000 in
theorem lf_RX11_160 : kGf RX11 160 10 1 := ⟨RX10, TX10, 10, "KeptParts$Web", "second", "[I", rfl, kin_10, by decide, (ktb1 74 (by decide +kernel) (by decide +kernel)), rfl⟩
set_option maxRecDepth 20000 in
theorem lf_RX11_180 : kGf RX11 180 8 2 := ⟨RX8, TX8, 9, "KeptParts$Trees", "root", "[I", rfl, kin_8, by decide, (ktb1 150 (by decide +kernel) (by decide +kernel)), rfl⟩
set_option maxRecDepth 20000 in
theorem lf_RX11_198 : kGf RX11 198 8 5 := ⟨RX8, TX8, 9, "KeptParts$Trees", "depth", "[I", rfl, kin_8, by decide, (ktb1 159 (by decide +kernel) (by decide +kernel)), rfl⟩
set_option maxRecDepth 20000 in
theorem lf_RX11_206 : kGf RX11 206 8 0 := ⟨RX8, TX8, 9, "KeptParts$Trees", "level", "[I", rfl, kin_8, by decide, (ktb1 143 (by decide +kernel) (by decide +kernel)), rfl⟩
set_option maxRecDepth 20000 in
theorem lf_RX11_209 : kGf RX11 209 8 1 := ⟨RX8, TX8, 9, "KeptParts$Trees", "tree", "[Z", rfl, kin_8, by decide, (ktb1 147 (by decide +kernel) (by decide +kernel)), rfl⟩
set_option maxRecDepth 20000 in
theorem lf_RX11_217 : kGf RX11 217 5 0 := ⟨RX5, TX5, 10, "KeptParts$Row", "loose", "[Z", rfl, kin_5, by decide, (ktb1 224 (by decide +kernel) (by decide +kernel)), rfl⟩
set_option maxRecDepth 20000 in
theorem lf_RX11_25 : kGf RX11 25 11 2 := ⟨RX11, TX11, 13, "KeptParts", "trees", "LKeptParts$Trees;", rfl, kin_11, by decide, (ktb2 168 (by decide +kernel) (by decide +kernel)), rfl⟩
set_option maxRecDepth 20000 in
theorem lf_RX11_263 : kGf RX11 263 4 0 := ⟨RX4, TX4, 9, "KeptParts$Plan", "steps", "I", rfl, kin_4, by decide, (ktb2 138 (by decide +kernel) (by decide +kernel)), rfl⟩
set_option maxRecDepth 20000 in
theorem lf_RX11_272 : kGf RX11 272 2 0 := ⟨RX2, TX2, 7, "KeptParts$Joiner", "parts", "I", rfl, kin_2, by decide, (ktb2 103 (by decide +kernel) (by decide +kernel)), rfl⟩
set_option maxRecDepth 20000 in
theorem lf_RX11_274 : kGf RX11 274 2 1 := ⟨RX2, TX2, 7, "KeptParts$Joiner", "evenParts", "I", rfl, kin_2, by decide, (ktb2 105 (by decide +kernel) (by decide +kernel)), rfl⟩
set_option maxRecDepth 20000 in
theorem lf_RX11_277 : kGf RX11 277 2 2 := ⟨RX2, TX2, 7, "KeptParts$Joiner", "greatest", "I", rfl, kin_2, by decide, (ktb2 108 (by decide +kernel) (by decide +kernel)), rfl⟩
set_option maxRecDepth 20000 in
theorem lf_RX11_286 : kGf RX11 286 10 4 := ⟨RX10, TX10, 10, "KeptParts$Web", "count", "I", rfl, kin_10, by decide, (ktb1 101 (by decide +kernel) (by decide +kernel)), rfl⟩
set_option maxRecDepth 20000 in
theorem lf_RX11_34 : kGf RX11 34 11 3 := ⟨RX11, TX11, 13, "KeptParts", "oddArcs", "LKeptParts$OddArcs;", rfl, kin_11, by decide, (ktb2 169 (by decide +kernel) (by decide +kernel)), rfl⟩
set_option maxRecDepth 20000 in
theorem lf_RX11_41 : kGf RX11 41 11 4 := ⟨RX11, TX11, 13, "KeptParts", "twice", "LKeptParts$Twice;", rfl, kin_11, by decide, (ktb2 170 (by decide +kernel) (by decide +kernel)), rfl⟩
set_option maxRecDepth 20000 in
theorem lf_RX11_48 : kGf RX11 48 11 5 := ⟨RX11, TX11, 13, "KeptParts", "row", "LKeptParts$Row;", rfl, kin_11, by decide, (ktb2 171 (by decide +kernel) (by decide +kernel)), rfl⟩
set_option maxRecDepth 20000 in
theorem lf_RX11_55 : kGf RX11 55 11 6 := ⟨RX11, TX11, 13, "KeptParts", "strong", "LKeptParts$Strong;", rfl, kin_11, by decide, (ktb2 172 (by decide +kernel) (by decide +kernel)), rfl⟩
set_option maxRecDepth 20000 in
theorem lf_RX11_62 : kGf RX11 62 11 7 := ⟨RX11, TX11, 13, "KeptParts", "sides", "LKeptParts$Sides;", rfl, kin_11, by decide, (ktb2 173 (by decide +kernel) (by decide +kernel)), rfl⟩
set_option maxRecDepth 20000 in
theorem lf_RX11_69 : kGf RX11 69 11 8 := ⟨RX11, TX11, 13, "KeptParts", "chosen", "LKeptParts$Chosen;", rfl, kin_11, by decide, (ktb2 174 (by decide +kernel) (by decide +kernel)), rfl⟩
set_option maxRecDepth 20000 in
theorem lf_RX11_7 : kGf RX11 7 11 0 := ⟨RX11, TX11, 13, "KeptParts", "strict", "Z", rfl, kin_11, by decide, (ktb2 166 (by decide +kernel) (by decide +kernel)), rfl⟩
set_option maxRecDepth 20000 in
theorem lf_RX11_76 : kGf RX11 76 11 10 := ⟨RX11, TX11, 13, "KeptParts", "joiner", "LKeptParts$Joiner;", rfl, kin_11, by decide, (ktb2 176 (by decide +kernel) (by decide +kernel)), rfl⟩
set_option maxRecDepth 20000 in
theorem lf_RX11_85 : kGf RX11 85 11 9 := ⟨RX11, TX11, 13, "KeptParts", "plan", "LKeptParts$Plan;", rfl, kin_11, by decide, (ktb2 175 (by decide +kernel) (by decide +kernel)), rfl⟩
set_option maxRecDepth 20000 in
theorem lf_RX11_89 : kGf RX11 89 11 11 := ⟨RX11, TX11, 13, "KeptParts", "anew", "LKeptParts$Sides;", rfl, kin_11, by decide, (ktb2 177 (by decide +kernel) (by decide +kernel)), rfl⟩
set_option maxRecDepth 20000 in
theorem lf_RX11_92 : kGf RX11 92 11 12 := ⟨RX11, TX11, 13, "KeptParts", "moved", "I", rfl, kin_11, by decide, (ktb2 178 (by decide +kernel) (by decide +kernel)), rfl⟩
set_option maxRecDepth 20000 in
theorem lf_RX11_96 : kGf RX11 96 10 3 := ⟨RX10, TX10, 10, "KeptParts$Web", "nodes", "I", rfl, kin_10, by decide, (ktb1 85 (by decide +kernel) (by decide +kernel)), rfl⟩
set_option maxRecDepth 20000 in
theorem lf_RX12_102 : kGf RX12 102 12 39 := ⟨RX12, TX12, 50, "KeptPartsModel", "before", "[Z", rfl, kin_12, by decide, (ktb6 14 (by decide +kernel) (by decide +kernel)), rfl⟩
set_option maxRecDepth 20000 in
theorem lf_RX12_105 : kGf RX12 105 12 40 := ⟨RX12, TX12, 50, "KeptPartsModel", "done", "[Z", rfl, kin_12, by decide, (ktb6 15 (by decide +kernel) (by decide +kernel)), rfl⟩
set_option maxRecDepth 20000 in
theorem lf_RX12_108 : kGf RX12 108 12 41 := ⟨RX12, TX12, 50, "KeptPartsModel", "core", "[I", rfl, kin_12, by decide, (ktb6 16 (by decide +kernel) (by decide +kernel)), rfl⟩
set_option maxRecDepth 20000 in
theorem lf_RX12_111 : kGf RX12 111 12 42 := ⟨RX12, TX12, 50, "KeptPartsModel", "left", "[I", rfl, kin_12, by decide, (ktb6 17 (by decide +kernel) (by decide +kernel)), rfl⟩
set_option maxRecDepth 20000 in
theorem lf_RX12_114 : kGf RX12 114 12 43 := ⟨RX12, TX12, 50, "KeptPartsModel", "way", "[I", rfl, kin_12, by decide, (ktb6 18 (by decide +kernel) (by decide +kernel)), rfl⟩
set_option maxRecDepth 20000 in
theorem lf_RX12_117 : kGf RX12 117 12 45 := ⟨RX12, TX12, 50, "KeptPartsModel", "plannedFirst", "[I", rfl, kin_12, by decide, (ktb6 20 (by decide +kernel) (by decide +kernel)), rfl⟩
set_option maxRecDepth 20000 in
theorem lf_RX12_120 : kGf RX12 120 12 46 := ⟨RX12, TX12, 50, "KeptPartsModel", "plannedSecond", "[I", rfl, kin_12, by decide, (ktb6 21 (by decide +kernel) (by decide +kernel)), rfl⟩
set_option maxRecDepth 20000 in
theorem lf_RX12_123 : kGf RX12 123 12 47 := ⟨RX12, TX12, 50, "KeptPartsModel", "group", "[I", rfl, kin_12, by decide, (ktb6 22 (by decide +kernel) (by decide +kernel)), rfl⟩
set_option maxRecDepth 20000 in
theorem lf_RX12_126 : kGf RX12 126 12 48 := ⟨RX12, TX12, 50, "KeptPartsModel", "many", "[I", rfl, kin_12, by decide, (ktb6 23 (by decide +kernel) (by decide +kernel)), rfl⟩
set_option maxRecDepth 20000 in
theorem lf_RX12_129 : kGf RX12 129 12 49 := ⟨RX12, TX12, 50, "KeptPartsModel", "uneven", "[Z", rfl, kin_12, by decide, (ktb6 24 (by decide +kernel) (by decide +kernel)), rfl⟩
set_option maxRecDepth 20000 in
theorem lf_RX12_13 : kGf RX12 13 12 4 := ⟨RX12, TX12, 50, "KeptPartsModel", "first", "[I", rfl, kin_12, by decide, (ktb5 219 (by decide +kernel) (by decide +kernel)), rfl⟩
set_option maxRecDepth 20000 in
theorem lf_RX12_132 : kGf RX12 132 12 0 := ⟨RX12, TX12, 50, "KeptPartsModel", "strict", "Z", rfl, kin_12, by decide, (ktb5 215 (by decide +kernel) (by decide +kernel)), rfl⟩
set_option maxRecDepth 20000 in
theorem lf_RX12_136 : kGf RX12 136 12 22 := ⟨RX12, TX12, 50, "KeptPartsModel", "thrown", "I", rfl, kin_12, by decide, (ktb5 237 (by decide +kernel) (by decide +kernel)), rfl⟩
set_option maxRecDepth 20000 in
theorem lf_RX12_140 : kGf RX12 140 12 1 := ⟨RX12, TX12, 50, "KeptPartsModel", "nodes", "I", rfl, kin_12, by decide, (ktb5 216 (by decide +kernel) (by decide +kernel)), rfl⟩
set_option maxRecDepth 20000 in
theorem lf_RX12_143 : kGf RX12 143 12 3 := ⟨RX12, TX12, 50, "KeptPartsModel", "arcs", "I", rfl, kin_12, by decide, (ktb5 218 (by decide +kernel) (by decide +kernel)), rfl⟩
set_option maxRecDepth 20000 in
theorem lf_RX12_146 : kGf RX12 146 12 10 := ⟨RX12, TX12, 50, "KeptPartsModel", "there", "I", rfl, kin_12, by decide, (ktb5 225 (by decide +kernel) (by decide +kernel)), rfl⟩
set_option maxRecDepth 20000 in
theorem lf_RX12_149 : kGf RX12 149 12 27 := ⟨RX12, TX12, 50, "KeptPartsModel", "met", "I", rfl, kin_12, by decide, (ktb6 2 (by decide +kernel) (by decide +kernel)), rfl⟩
set_option maxRecDepth 20000 in
theorem lf_RX12_16 : kGf RX12 16 12 5 := ⟨RX12, TX12, 50, "KeptPartsModel", "second", "[I", rfl, kin_12, by decide, (ktb5 220 (by decide +kernel) (by decide +kernel)), rfl⟩
set_option maxRecDepth 20000 in
theorem lf_RX12_167 : kGf RX12 167 12 17 := ⟨RX12, TX12, 50, "KeptPartsModel", "steps", "I", rfl, kin_12, by decide, (ktb5 232 (by decide +kernel) (by decide +kernel)), rfl⟩
set_option maxRecDepth 20000 in
theorem lf_RX12_19 : kGf RX12 19 12 6 := ⟨RX12, TX12, 50, "KeptPartsModel", "level", "[I", rfl, kin_12, by decide, (ktb5 221 (by decide +kernel) (by decide +kernel)), rfl⟩
set_option maxRecDepth 20000 in
theorem lf_RX12_194 : kGf RX12 194 12 16 := ⟨RX12, TX12, 50, "KeptPartsModel", "moved", "I", rfl, kin_12, by decide, (ktb5 231 (by decide +kernel) (by decide +kernel)), rfl⟩
set_option maxRecDepth 20000 in
theorem lf_RX12_197 : kGf RX12 197 12 14 := ⟨RX12, TX12, 50, "KeptPartsModel", "rings", "I", rfl, kin_12, by decide, (ktb5 229 (by decide +kernel) (by decide +kernel)), rfl⟩
set_option maxRecDepth 20000 in
theorem lf_RX12_22 : kGf RX12 22 12 7 := ⟨RX12, TX12, 50, "KeptPartsModel", "tree", "[Z", rfl, kin_12, by decide, (ktb5 222 (by decide +kernel) (by decide +kernel)), rfl⟩
set_option maxRecDepth 20000 in
theorem lf_RX12_237 : kGf RX12 237 12 44 := ⟨RX12, TX12, 50, "KeptPartsModel", "planned", "I", rfl, kin_12, by decide, (ktb6 19 (by decide +kernel) (by decide +kernel)), rfl⟩
set_option maxRecDepth 20000 in
theorem lf_RX12_26 : kGf RX12 26 12 8 := ⟨RX12, TX12, 50, "KeptPartsModel", "loose", "[Z", rfl, kin_12, by decide, (ktb5 223 (by decide +kernel) (by decide +kernel)), rfl⟩
set_option maxRecDepth 20000 in
theorem lf_RX12_29 : kGf RX12 29 12 9 := ⟨RX12, TX12, 50, "KeptPartsModel", "is", "[Z", rfl, kin_12, by decide, (ktb5 224 (by decide +kernel) (by decide +kernel)), rfl⟩
set_option maxRecDepth 20000 in
theorem lf_RX12_32 : kGf RX12 32 12 11 := ⟨RX12, TX12, 50, "KeptPartsModel", "list", "[I", rfl, kin_12, by decide, (ktb5 226 (by decide +kernel) (by decide +kernel)), rfl⟩
set_option maxRecDepth 20000 in
theorem lf_RX12_35 : kGf RX12 35 12 12 := ⟨RX12, TX12, 50, "KeptPartsModel", "order", "[I", rfl, kin_12, by decide, (ktb5 227 (by decide +kernel) (by decide +kernel)), rfl⟩
set_option maxRecDepth 20000 in
theorem lf_RX12_38 : kGf RX12 38 12 13 := ⟨RX12, TX12, 50, "KeptPartsModel", "place", "[I", rfl, kin_12, by decide, (ktb5 228 (by decide +kernel) (by decide +kernel)), rfl⟩
set_option maxRecDepth 20000 in
theorem lf_RX12_41 : kGf RX12 41 12 15 := ⟨RX12, TX12, 50, "KeptPartsModel", "ring", "[I", rfl, kin_12, by decide, (ktb5 230 (by decide +kernel) (by decide +kernel)), rfl⟩
set_option maxRecDepth 20000 in
theorem lf_RX12_44 : kGf RX12 44 12 18 := ⟨RX12, TX12, 50, "KeptPartsModel", "stepPuts", "[Z", rfl, kin_12, by decide, (ktb5 233 (by decide +kernel) (by decide +kernel)), rfl⟩
set_option maxRecDepth 20000 in
theorem lf_RX12_47 : kGf RX12 47 12 19 := ⟨RX12, TX12, 50, "KeptPartsModel", "stepFirst", "[I", rfl, kin_12, by decide, (ktb5 234 (by decide +kernel) (by decide +kernel)), rfl⟩
set_option maxRecDepth 20000 in
theorem lf_RX12_50 : kGf RX12 50 12 20 := ⟨RX12, TX12, 50, "KeptPartsModel", "stepSecond", "[I", rfl, kin_12, by decide, (ktb5 235 (by decide +kernel) (by decide +kernel)), rfl⟩
set_option maxRecDepth 20000 in
theorem lf_RX12_53 : kGf RX12 53 12 21 := ⟨RX12, TX12, 50, "KeptPartsModel", "stepTakes", "[I", rfl, kin_12, by decide, (ktb5 236 (by decide +kernel) (by decide +kernel)), rfl⟩
set_option maxRecDepth 20000 in
theorem lf_RX12_56 : kGf RX12 56 12 23 := ⟨RX12, TX12, 50, "KeptPartsModel", "seen", "[Z", rfl, kin_12, by decide, (ktb5 238 (by decide +kernel) (by decide +kernel)), rfl⟩
set_option maxRecDepth 20000 in
theorem lf_RX12_59 : kGf RX12 59 12 24 := ⟨RX12, TX12, 50, "KeptPartsModel", "queue", "[I", rfl, kin_12, by decide, (ktb5 239 (by decide +kernel) (by decide +kernel)), rfl⟩
set_option maxRecDepth 20000 in
theorem lf_RX12_62 : kGf RX12 62 12 25 := ⟨RX12, TX12, 50, "KeptPartsModel", "by", "[I", rfl, kin_12, by decide, (ktb6 0 (by decide +kernel) (by decide +kernel)), rfl⟩
set_option maxRecDepth 20000 in
theorem lf_RX12_65 : kGf RX12 65 12 26 := ⟨RX12, TX12, 50, "KeptPartsModel", "deep", "[I", rfl, kin_12, by decide, (ktb6 1 (by decide +kernel) (by decide +kernel)), rfl⟩
set_option maxRecDepth 20000 in
theorem lf_RX12_68 : kGf RX12 68 12 28 := ⟨RX12, TX12, 50, "KeptPartsModel", "head", "[I", rfl, kin_12, by decide, (ktb6 3 (by decide +kernel) (by decide +kernel)), rfl⟩
set_option maxRecDepth 20000 in
theorem lf_RX12_7 : kGf RX12 7 12 2 := ⟨RX12, TX12, 50, "KeptPartsModel", "weight", "[I", rfl, kin_12, by decide, (ktb5 217 (by decide +kernel) (by decide +kernel)), rfl⟩
set_option maxRecDepth 20000 in
theorem lf_RX12_71 : kGf RX12 71 12 29 := ⟨RX12, TX12, 50, "KeptPartsModel", "next", "[I", rfl, kin_12, by decide, (ktb6 4 (by decide +kernel) (by decide +kernel)), rfl⟩
set_option maxRecDepth 20000 in
theorem lf_RX12_74 : kGf RX12 74 12 30 := ⟨RX12, TX12, 50, "KeptPartsModel", "ahead", "[Z", rfl, kin_12, by decide, (ktb6 5 (by decide +kernel) (by decide +kernel)), rfl⟩
set_option maxRecDepth 20000 in
theorem lf_RX12_77 : kGf RX12 77 12 31 := ⟨RX12, TX12, 50, "KeptPartsModel", "behind", "[Z", rfl, kin_12, by decide, (ktb6 6 (by decide +kernel) (by decide +kernel)), rfl⟩
set_option maxRecDepth 20000 in
theorem lf_RX12_80 : kGf RX12 80 12 32 := ⟨RX12, TX12, 50, "KeptPartsModel", "those", "[I", rfl, kin_12, by decide, (ktb6 7 (by decide +kernel) (by decide +kernel)), rfl⟩
set_option maxRecDepth 20000 in
theorem lf_RX12_83 : kGf RX12 83 12 33 := ⟨RX12, TX12, 50, "KeptPartsModel", "one", "[Z", rfl, kin_12, by decide, (ktb6 8 (by decide +kernel) (by decide +kernel)), rfl⟩
set_option maxRecDepth 20000 in
theorem lf_RX12_86 : kGf RX12 86 12 34 := ⟨RX12, TX12, 50, "KeptPartsModel", "lesser", "[Z", rfl, kin_12, by decide, (ktb6 9 (by decide +kernel) (by decide +kernel)), rfl⟩
set_option maxRecDepth 20000 in
theorem lf_RX12_89 : kGf RX12 89 12 35 := ⟨RX12, TX12, 50, "KeptPartsModel", "rest", "[Z", rfl, kin_12, by decide, (ktb6 10 (by decide +kernel) (by decide +kernel)), rfl⟩
set_option maxRecDepth 20000 in
theorem lf_RX12_93 : kGf RX12 93 12 36 := ⟨RX12, TX12, 50, "KeptPartsModel", "near", "[Z", rfl, kin_12, by decide, (ktb6 11 (by decide +kernel) (by decide +kernel)), rfl⟩
set_option maxRecDepth 20000 in
theorem lf_RX12_96 : kGf RX12 96 12 37 := ⟨RX12, TX12, 50, "KeptPartsModel", "nearMany", "[I", rfl, kin_12, by decide, (ktb6 12 (by decide +kernel) (by decide +kernel)), rfl⟩
set_option maxRecDepth 20000 in
theorem lf_RX12_99 : kGf RX12 99 12 38 := ⟨RX12, TX12, 50, "KeptPartsModel", "in", "[Z", rfl, kin_12, by decide, (ktb6 13 (by decide +kernel) (by decide +kernel)), rfl⟩
set_option maxRecDepth 20000 in
theorem lf_RX1_15 : kGf RX1 15 1 1 := ⟨RX1, TX1, 4, "KeptParts$Fan", "start", "[I", rfl, kin_1, by decide, (ktb1 47 (by decide +kernel) (by decide +kernel)), rfl⟩
set_option maxRecDepth 20000 in
theorem lf_RX1_18 : kGf RX1 18 1 2 := ⟨RX1, TX1, 4, "KeptParts$Fan", "nodes", "I", rfl, kin_1, by decide, (ktb1 51 (by decide +kernel) (by decide +kernel)), rfl⟩
set_option maxRecDepth 20000 in
theorem lf_RX1_22 : kGf RX1 22 1 3 := ⟨RX1, TX1, 4, "KeptParts$Fan", "count", "I", rfl, kin_1, by decide, (ktb1 52 (by decide +kernel) (by decide +kernel)), rfl⟩
set_option maxRecDepth 20000 in
theorem lf_RX1_9 : kGf RX1 9 1 0 := ⟨RX1, TX1, 4, "KeptParts$Fan", "arcs", "[I", rfl, kin_1, by decide, (ktb1 43 (by decide +kernel) (by decide +kernel)), rfl⟩
set_option maxRecDepth 20000 in
theorem lf_RX2_15 : kGf RX2 15 2 4 := ⟨RX2, TX2, 7, "KeptParts$Joiner", "turn", "[I", rfl, kin_2, by decide, (ktb2 110 (by decide +kernel) (by decide +kernel)), rfl⟩
set_option maxRecDepth 20000 in
theorem lf_RX2_18 : kGf RX2 18 2 5 := ⟨RX2, TX2, 7, "KeptParts$Joiner", "size", "[I", rfl, kin_2, by decide, (ktb2 111 (by decide +kernel) (by decide +kernel)), rfl⟩
set_option maxRecDepth 20000 in
theorem lf_RX2_21 : kGf RX2 21 2 6 := ⟨RX2, TX2, 7, "KeptParts$Joiner", "isOdd", "[Z", rfl, kin_2, by decide, (ktb2 112 (by decide +kernel) (by decide +kernel)), rfl⟩
set_option maxRecDepth 20000 in
theorem lf_RX2_25 : kGf RX2 25 2 0 := ⟨RX2, TX2, 7, "KeptParts$Joiner", "parts", "I", rfl, kin_2, by decide, (ktb2 102 (by decide +kernel) (by decide +kernel)), rfl⟩
set_option maxRecDepth 20000 in
theorem lf_RX2_29 : kGf RX2 29 2 1 := ⟨RX2, TX2, 7, "KeptParts$Joiner", "evenParts", "I", rfl, kin_2, by decide, (ktb2 104 (by decide +kernel) (by decide +kernel)), rfl⟩
set_option maxRecDepth 20000 in
theorem lf_RX2_38 : kGf RX2 38 2 2 := ⟨RX2, TX2, 7, "KeptParts$Joiner", "greatest", "I", rfl, kin_2, by decide, (ktb2 106 (by decide +kernel) (by decide +kernel)), rfl⟩
set_option maxRecDepth 20000 in
theorem lf_RX2_9 : kGf RX2 9 2 3 := ⟨RX2, TX2, 7, "KeptParts$Joiner", "over", "[I", rfl, kin_2, by decide, (ktb2 109 (by decide +kernel) (by decide +kernel)), rfl⟩
set_option maxRecDepth 20000 in
theorem lf_RX3_15 : kGf RX3 15 3 0 := ⟨RX3, TX3, 3, "KeptParts$OddArcs", "web", "LKeptParts$Web;", rfl, kin_3, by decide, (ktb1 188 (by decide +kernel) (by decide +kernel)), rfl⟩
set_option maxRecDepth 20000 in
theorem lf_RX3_19 : kGf RX3 19 3 1 := ⟨RX3, TX3, 3, "KeptParts$OddArcs", "trees", "LKeptParts$Trees;", rfl, kin_3, by decide, (ktb1 189 (by decide +kernel) (by decide +kernel)), rfl⟩
set_option maxRecDepth 20000 in
theorem lf_RX3_23 : kGf RX3 23 8 5 := ⟨RX8, TX8, 9, "KeptParts$Trees", "depth", "[I", rfl, kin_8, by decide, (ktb1 157 (by decide +kernel) (by decide +kernel)), rfl⟩
set_option maxRecDepth 20000 in
theorem lf_RX3_29 : kGf RX3 29 10 0 := ⟨RX10, TX10, 10, "KeptParts$Web", "first", "[I", rfl, kin_10, by decide, (ktb1 64 (by decide +kernel) (by decide +kernel)), rfl⟩
set_option maxRecDepth 20000 in
theorem lf_RX3_34 : kGf RX3 34 10 1 := ⟨RX10, TX10, 10, "KeptParts$Web", "second", "[I", rfl, kin_10, by decide, (ktb1 72 (by decide +kernel) (by decide +kernel)), rfl⟩
set_option maxRecDepth 20000 in
theorem lf_RX3_37 : kGf RX3 37 8 1 := ⟨RX8, TX8, 9, "KeptParts$Trees", "tree", "[Z", rfl, kin_8, by decide, (ktb1 145 (by decide +kernel) (by decide +kernel)), rfl⟩
set_option maxRecDepth 20000 in
theorem lf_RX3_40 : kGf RX3 40 10 4 := ⟨RX10, TX10, 10, "KeptParts$Web", "count", "I", rfl, kin_10, by decide, (ktb1 95 (by decide +kernel) (by decide +kernel)), rfl⟩
set_option maxRecDepth 20000 in
theorem lf_RX3_44 : kGf RX3 44 10 2 := ⟨RX10, TX10, 10, "KeptParts$Web", "list", "[I", rfl, kin_10, by decide, (ktb1 80 (by decide +kernel) (by decide +kernel)), rfl⟩
set_option maxRecDepth 20000 in
theorem lf_RX3_55 : kGf RX3 55 10 3 := ⟨RX10, TX10, 10, "KeptParts$Web", "nodes", "I", rfl, kin_10, by decide, (ktb1 89 (by decide +kernel) (by decide +kernel)), rfl⟩
set_option maxRecDepth 20000 in
theorem lf_RX3_62 : kGf RX3 62 8 2 := ⟨RX8, TX8, 9, "KeptParts$Trees", "root", "[I", rfl, kin_8, by decide, (ktb1 149 (by decide +kernel) (by decide +kernel)), rfl⟩
set_option maxRecDepth 20000 in
theorem lf_RX3_73 : kGf RX3 73 8 4 := ⟨RX8, TX8, 9, "KeptParts$Trees", "up", "[I", rfl, kin_8, by decide, (ktb1 155 (by decide +kernel) (by decide +kernel)), rfl⟩
set_option maxRecDepth 20000 in
theorem lf_RX3_79 : kGf RX3 79 8 3 := ⟨RX8, TX8, 9, "KeptParts$Trees", "parent", "[I", rfl, kin_8, by decide, (ktb1 153 (by decide +kernel) (by decide +kernel)), rfl⟩
set_option maxRecDepth 20000 in
theorem lf_RX3_9 : kGf RX3 9 3 2 := ⟨RX3, TX3, 3, "KeptParts$OddArcs", "isOdd", "[Z", rfl, kin_3, by decide, (ktb1 190 (by decide +kernel) (by decide +kernel)), rfl⟩
set_option maxRecDepth 20000 in
theorem lf_RX4_15 : kGf RX4 15 4 4 := ⟨RX4, TX4, 9, "KeptParts$Plan", "isPut", "[Z", rfl, kin_4, by decide, (ktb2 142 (by decide +kernel) (by decide +kernel)), rfl⟩
set_option maxRecDepth 20000 in
theorem lf_RX4_19 : kGf RX4 19 4 5 := ⟨RX4, TX4, 9, "KeptParts$Plan", "first", "[I", rfl, kin_4, by decide, (ktb2 143 (by decide +kernel) (by decide +kernel)), rfl⟩
set_option maxRecDepth 20000 in
theorem lf_RX4_22 : kGf RX4 22 4 6 := ⟨RX4, TX4, 9, "KeptParts$Plan", "second", "[I", rfl, kin_4, by decide, (ktb2 144 (by decide +kernel) (by decide +kernel)), rfl⟩
set_option maxRecDepth 20000 in
theorem lf_RX4_25 : kGf RX4 25 4 7 := ⟨RX4, TX4, 9, "KeptParts$Plan", "arcTaker", "[I", rfl, kin_4, by decide, (ktb2 145 (by decide +kernel) (by decide +kernel)), rfl⟩
set_option maxRecDepth 20000 in
theorem lf_RX4_28 : kGf RX4 28 4 8 := ⟨RX4, TX4, 9, "KeptParts$Plan", "putTaker", "[I", rfl, kin_4, by decide, (ktb2 146 (by decide +kernel) (by decide +kernel)), rfl⟩
set_option maxRecDepth 20000 in
theorem lf_RX4_31 : kGf RX4 31 4 1 := ⟨RX4, TX4, 9, "KeptParts$Plan", "web", "LKeptParts$Web;", rfl, kin_4, by decide, (ktb2 139 (by decide +kernel) (by decide +kernel)), rfl⟩
set_option maxRecDepth 20000 in
theorem lf_RX4_35 : kGf RX4 35 4 2 := ⟨RX4, TX4, 9, "KeptParts$Plan", "joiner", "LKeptParts$Joiner;", rfl, kin_4, by decide, (ktb2 140 (by decide +kernel) (by decide +kernel)), rfl⟩
set_option maxRecDepth 20000 in
theorem lf_RX4_45 : kGf RX4 45 4 0 := ⟨RX4, TX4, 9, "KeptParts$Plan", "steps", "I", rfl, kin_4, by decide, (ktb2 137 (by decide +kernel) (by decide +kernel)), rfl⟩
set_option maxRecDepth 20000 in
theorem lf_RX4_53 : kGf RX4 53 10 4 := ⟨RX10, TX10, 10, "KeptParts$Web", "count", "I", rfl, kin_10, by decide, (ktb1 100 (by decide +kernel) (by decide +kernel)), rfl⟩
set_option maxRecDepth 20000 in
theorem lf_RX4_58 : kGf RX4 58 10 3 := ⟨RX10, TX10, 10, "KeptParts$Web", "nodes", "I", rfl, kin_10, by decide, (ktb1 94 (by decide +kernel) (by decide +kernel)), rfl⟩
set_option maxRecDepth 20000 in
theorem lf_RX4_67 : kGf RX4 67 10 2 := ⟨RX10, TX10, 10, "KeptParts$Web", "list", "[I", rfl, kin_10, by decide, (ktb1 84 (by decide +kernel) (by decide +kernel)), rfl⟩
set_option maxRecDepth 20000 in
theorem lf_RX4_74 : kGf RX4 74 10 0 := ⟨RX10, TX10, 10, "KeptParts$Web", "first", "[I", rfl, kin_10, by decide, (ktb1 70 (by decide +kernel) (by decide +kernel)), rfl⟩
set_option maxRecDepth 20000 in
theorem lf_RX4_75 : kGf RX4 75 10 1 := ⟨RX10, TX10, 10, "KeptParts$Web", "second", "[I", rfl, kin_10, by decide, (ktb1 78 (by decide +kernel) (by decide +kernel)), rfl⟩
set_option maxRecDepth 20000 in
theorem lf_RX4_9 : kGf RX4 9 4 3 := ⟨RX4, TX4, 9, "KeptParts$Plan", "taken", "[I", rfl, kin_4, by decide, (ktb2 141 (by decide +kernel) (by decide +kernel)), rfl⟩
set_option maxRecDepth 20000 in
theorem lf_RX5_15 : kGf RX5 15 5 2 := ⟨RX5, TX5, 10, "KeptParts$Row", "nodes", "[I", rfl, kin_5, by decide, (ktb1 226 (by decide +kernel) (by decide +kernel)), rfl⟩
set_option maxRecDepth 20000 in
theorem lf_RX5_19 : kGf RX5 19 5 3 := ⟨RX5, TX5, 10, "KeptParts$Row", "places", "[I", rfl, kin_5, by decide, (ktb1 227 (by decide +kernel) (by decide +kernel)), rfl⟩
set_option maxRecDepth 20000 in
theorem lf_RX5_22 : kGf RX5 22 5 4 := ⟨RX5, TX5, 10, "KeptParts$Row", "ahead", "[I", rfl, kin_5, by decide, (ktb1 228 (by decide +kernel) (by decide +kernel)), rfl⟩
set_option maxRecDepth 20000 in
theorem lf_RX5_25 : kGf RX5 25 5 5 := ⟨RX5, TX5, 10, "KeptParts$Row", "behind", "[I", rfl, kin_5, by decide, (ktb1 229 (by decide +kernel) (by decide +kernel)), rfl⟩
set_option maxRecDepth 20000 in
theorem lf_RX5_28 : kGf RX5 28 5 6 := ⟨RX5, TX5, 10, "KeptParts$Row", "shifted", "[I", rfl, kin_5, by decide, (ktb1 230 (by decide +kernel) (by decide +kernel)), rfl⟩
set_option maxRecDepth 20000 in
theorem lf_RX5_31 : kGf RX5 31 5 7 := ⟨RX5, TX5, 10, "KeptParts$Row", "queue", "[I", rfl, kin_5, by decide, (ktb1 231 (by decide +kernel) (by decide +kernel)), rfl⟩
set_option maxRecDepth 20000 in
theorem lf_RX5_34 : kGf RX5 34 5 8 := ⟨RX5, TX5, 10, "KeptParts$Row", "ringArcs", "[I", rfl, kin_5, by decide, (ktb1 232 (by decide +kernel) (by decide +kernel)), rfl⟩
set_option maxRecDepth 20000 in
theorem lf_RX5_37 : kGf RX5 37 5 1 := ⟨RX5, TX5, 10, "KeptParts$Row", "web", "LKeptParts$Web;", rfl, kin_5, by decide, (ktb1 225 (by decide +kernel) (by decide +kernel)), rfl⟩
set_option maxRecDepth 20000 in
theorem lf_RX5_41 : kGf RX5 41 5 9 := ⟨RX5, TX5, 10, "KeptParts$Row", "ringLength", "I", rfl, kin_5, by decide, (ktb1 233 (by decide +kernel) (by decide +kernel)), rfl⟩
set_option maxRecDepth 20000 in
theorem lf_RX5_45 : kGf RX5 45 10 4 := ⟨RX10, TX10, 10, "KeptParts$Web", "count", "I", rfl, kin_10, by decide, (ktb1 99 (by decide +kernel) (by decide +kernel)), rfl⟩
set_option maxRecDepth 20000 in
theorem lf_RX5_50 : kGf RX5 50 10 2 := ⟨RX10, TX10, 10, "KeptParts$Web", "list", "[I", rfl, kin_10, by decide, (ktb1 83 (by decide +kernel) (by decide +kernel)), rfl⟩
set_option maxRecDepth 20000 in
theorem lf_RX5_53 : kGf RX5 53 10 3 := ⟨RX10, TX10, 10, "KeptParts$Web", "nodes", "I", rfl, kin_10, by decide, (ktb1 93 (by decide +kernel) (by decide +kernel)), rfl⟩
set_option maxRecDepth 20000 in
theorem lf_RX5_55 : kGf RX5 55 10 0 := ⟨RX10, TX10, 10, "KeptParts$Web", "first", "[I", rfl, kin_10, by decide, (ktb1 69 (by decide +kernel) (by decide +kernel)), rfl⟩
set_option maxRecDepth 20000 in
theorem lf_RX5_58 : kGf RX5 58 10 1 := ⟨RX10, TX10, 10, "KeptParts$Web", "second", "[I", rfl, kin_10, by decide, (ktb1 77 (by decide +kernel) (by decide +kernel)), rfl⟩
set_option maxRecDepth 20000 in
theorem lf_RX5_73 : kGf RX5 73 10 6 := ⟨RX10, TX10, 10, "KeptParts$Web", "out", "LKeptParts$Fan;", rfl, kin_10, by decide, (ktb1 108 (by decide +kernel) (by decide +kernel)), rfl⟩
set_option maxRecDepth 20000 in
theorem lf_RX5_77 : kGf RX5 77 1 1 := ⟨RX1, TX1, 4, "KeptParts$Fan", "start", "[I", rfl, kin_1, by decide, (ktb1 50 (by decide +kernel) (by decide +kernel)), rfl⟩
set_option maxRecDepth 20000 in
theorem lf_RX5_82 : kGf RX5 82 1 0 := ⟨RX1, TX1, 4, "KeptParts$Fan", "arcs", "[I", rfl, kin_1, by decide, (ktb1 46 (by decide +kernel) (by decide +kernel)), rfl⟩
set_option maxRecDepth 20000 in
theorem lf_RX5_85 : kGf RX5 85 10 7 := ⟨RX10, TX10, 10, "KeptParts$Web", "in", "LKeptParts$Fan;", rfl, kin_10, by decide, (ktb1 111 (by decide +kernel) (by decide +kernel)), rfl⟩
set_option maxRecDepth 20000 in
theorem lf_RX5_9 : kGf RX5 9 5 0 := ⟨RX5, TX5, 10, "KeptParts$Row", "loose", "[Z", rfl, kin_5, by decide, (ktb1 223 (by decide +kernel) (by decide +kernel)), rfl⟩
set_option maxRecDepth 20000 in
theorem lf_RX6_15 : kGf RX6 15 6 2 := ⟨RX6, TX6, 9, "KeptParts$Sides", "near", "[I", rfl, kin_6, by decide, (ktb2 51 (by decide +kernel) (by decide +kernel)), rfl⟩
set_option maxRecDepth 20000 in
theorem lf_RX6_18 : kGf RX6 18 6 3 := ⟨RX6, TX6, 9, "KeptParts$Sides", "core", "[I", rfl, kin_6, by decide, (ktb2 52 (by decide +kernel) (by decide +kernel)), rfl⟩
set_option maxRecDepth 20000 in
theorem lf_RX6_21 : kGf RX6 21 6 4 := ⟨RX6, TX6, 9, "KeptParts$Sides", "mark", "[I", rfl, kin_6, by decide, (ktb2 53 (by decide +kernel) (by decide +kernel)), rfl⟩
set_option maxRecDepth 20000 in
theorem lf_RX6_24 : kGf RX6 24 6 5 := ⟨RX6, TX6, 9, "KeptParts$Sides", "open", "[I", rfl, kin_6, by decide, (ktb2 54 (by decide +kernel) (by decide +kernel)), rfl⟩
set_option maxRecDepth 20000 in
theorem lf_RX6_27 : kGf RX6 27 6 6 := ⟨RX6, TX6, 9, "KeptParts$Sides", "queue", "[I", rfl, kin_6, by decide, (ktb2 55 (by decide +kernel) (by decide +kernel)), rfl⟩
set_option maxRecDepth 20000 in
theorem lf_RX6_30 : kGf RX6 30 6 0 := ⟨RX6, TX6, 9, "KeptParts$Sides", "web", "LKeptParts$Web;", rfl, kin_6, by decide, (ktb2 49 (by decide +kernel) (by decide +kernel)), rfl⟩
set_option maxRecDepth 20000 in
theorem lf_RX6_37 : kGf RX6 37 10 3 := ⟨RX10, TX10, 10, "KeptParts$Web", "nodes", "I", rfl, kin_10, by decide, (ktb1 91 (by decide +kernel) (by decide +kernel)), rfl⟩
set_option maxRecDepth 20000 in
theorem lf_RX6_49 : kGf RX6 49 6 7 := ⟨RX6, TX6, 9, "KeptParts$Sides", "threes", "J", rfl, kin_6, by decide, (ktb2 56 (by decide +kernel) (by decide +kernel)), rfl⟩
set_option maxRecDepth 20000 in
theorem lf_RX6_56 : kGf RX6 56 6 8 := ⟨RX6, TX6, 9, "KeptParts$Sides", "age", "I", rfl, kin_6, by decide, (ktb2 57 (by decide +kernel) (by decide +kernel)), rfl⟩
set_option maxRecDepth 20000 in
theorem lf_RX6_59 : kGf RX6 59 10 5 := ⟨RX10, TX10, 10, "KeptParts$Web", "age", "I", rfl, kin_10, by decide, (ktb1 105 (by decide +kernel) (by decide +kernel)), rfl⟩
set_option maxRecDepth 20000 in
theorem lf_RX6_9 : kGf RX6 9 6 1 := ⟨RX6, TX6, 9, "KeptParts$Sides", "start", "[I", rfl, kin_6, by decide, (ktb2 50 (by decide +kernel) (by decide +kernel)), rfl⟩
set_option maxRecDepth 20000 in
theorem lf_RX7_15 : kGf RX7 15 7 2 := ⟨RX7, TX7, 7, "KeptParts$Strong", "left", "[I", rfl, kin_7, by decide, (ktb2 23 (by decide +kernel) (by decide +kernel)), rfl⟩
set_option maxRecDepth 20000 in
theorem lf_RX7_18 : kGf RX7 18 7 3 := ⟨RX7, TX7, 7, "KeptParts$Strong", "stack", "[I", rfl, kin_7, by decide, (ktb2 24 (by decide +kernel) (by decide +kernel)), rfl⟩
set_option maxRecDepth 20000 in
theorem lf_RX7_21 : kGf RX7 21 7 4 := ⟨RX7, TX7, 7, "KeptParts$Strong", "cursor", "[I", rfl, kin_7, by decide, (ktb2 25 (by decide +kernel) (by decide +kernel)), rfl⟩
set_option maxRecDepth 20000 in
theorem lf_RX7_24 : kGf RX7 24 7 0 := ⟨RX7, TX7, 7, "KeptParts$Strong", "web", "LKeptParts$Web;", rfl, kin_7, by decide, (ktb2 21 (by decide +kernel) (by decide +kernel)), rfl⟩
set_option maxRecDepth 20000 in
theorem lf_RX7_31 : kGf RX7 31 10 3 := ⟨RX10, TX10, 10, "KeptParts$Web", "nodes", "I", rfl, kin_10, by decide, (ktb1 88 (by decide +kernel) (by decide +kernel)), rfl⟩
set_option maxRecDepth 20000 in
theorem lf_RX7_37 : kGf RX7 37 7 6 := ⟨RX7, TX7, 7, "KeptParts$Strong", "age", "I", rfl, kin_7, by decide, (ktb2 27 (by decide +kernel) (by decide +kernel)), rfl⟩
set_option maxRecDepth 20000 in
theorem lf_RX7_40 : kGf RX7 40 10 5 := ⟨RX10, TX10, 10, "KeptParts$Web", "age", "I", rfl, kin_10, by decide, (ktb1 102 (by decide +kernel) (by decide +kernel)), rfl⟩
set_option maxRecDepth 20000 in
theorem lf_RX7_47 : kGf RX7 47 7 5 := ⟨RX7, TX7, 7, "KeptParts$Strong", "leftCount", "I", rfl, kin_7, by decide, (ktb2 26 (by decide +kernel) (by decide +kernel)), rfl⟩
set_option maxRecDepth 20000 in
theorem lf_RX7_57 : kGf RX7 57 10 6 := ⟨RX10, TX10, 10, "KeptParts$Web", "out", "LKeptParts$Fan;", rfl, kin_10, by decide, (ktb1 107 (by decide +kernel) (by decide +kernel)), rfl⟩
set_option maxRecDepth 20000 in
theorem lf_RX7_61 : kGf RX7 61 1 1 := ⟨RX1, TX1, 4, "KeptParts$Fan", "start", "[I", rfl, kin_1, by decide, (ktb1 48 (by decide +kernel) (by decide +kernel)), rfl⟩
set_option maxRecDepth 20000 in
theorem lf_RX7_66 : kGf RX7 66 10 1 := ⟨RX10, TX10, 10, "KeptParts$Web", "second", "[I", rfl, kin_10, by decide, (ktb1 75 (by decide +kernel) (by decide +kernel)), rfl⟩
set_option maxRecDepth 20000 in
theorem lf_RX7_69 : kGf RX7 69 1 0 := ⟨RX1, TX1, 4, "KeptParts$Fan", "arcs", "[I", rfl, kin_1, by decide, (ktb1 44 (by decide +kernel) (by decide +kernel)), rfl⟩
set_option maxRecDepth 20000 in
theorem lf_RX7_72 : kGf RX7 72 10 7 := ⟨RX10, TX10, 10, "KeptParts$Web", "in", "LKeptParts$Fan;", rfl, kin_10, by decide, (ktb1 110 (by decide +kernel) (by decide +kernel)), rfl⟩
set_option maxRecDepth 20000 in
theorem lf_RX7_81 : kGf RX7 81 10 0 := ⟨RX10, TX10, 10, "KeptParts$Web", "first", "[I", rfl, kin_10, by decide, (ktb1 67 (by decide +kernel) (by decide +kernel)), rfl⟩
set_option maxRecDepth 20000 in
theorem lf_RX7_9 : kGf RX7 9 7 1 := ⟨RX7, TX7, 7, "KeptParts$Strong", "least", "[I", rfl, kin_7, by decide, (ktb2 22 (by decide +kernel) (by decide +kernel)), rfl⟩
set_option maxRecDepth 20000 in
theorem lf_RX8_117 : kGf RX8 117 2 2 := ⟨RX2, TX2, 7, "KeptParts$Joiner", "greatest", "I", rfl, kin_2, by decide, (ktb2 107 (by decide +kernel) (by decide +kernel)), rfl⟩
set_option maxRecDepth 20000 in
theorem lf_RX8_15 : kGf RX8 15 8 1 := ⟨RX8, TX8, 9, "KeptParts$Trees", "tree", "[Z", rfl, kin_8, by decide, (ktb1 144 (by decide +kernel) (by decide +kernel)), rfl⟩
set_option maxRecDepth 20000 in
theorem lf_RX8_19 : kGf RX8 19 8 2 := ⟨RX8, TX8, 9, "KeptParts$Trees", "root", "[I", rfl, kin_8, by decide, (ktb1 148 (by decide +kernel) (by decide +kernel)), rfl⟩
set_option maxRecDepth 20000 in
theorem lf_RX8_22 : kGf RX8 22 8 3 := ⟨RX8, TX8, 9, "KeptParts$Trees", "parent", "[I", rfl, kin_8, by decide, (ktb1 151 (by decide +kernel) (by decide +kernel)), rfl⟩
set_option maxRecDepth 20000 in
theorem lf_RX8_25 : kGf RX8 25 8 4 := ⟨RX8, TX8, 9, "KeptParts$Trees", "up", "[I", rfl, kin_8, by decide, (ktb1 154 (by decide +kernel) (by decide +kernel)), rfl⟩
set_option maxRecDepth 20000 in
theorem lf_RX8_28 : kGf RX8 28 8 5 := ⟨RX8, TX8, 9, "KeptParts$Trees", "depth", "[I", rfl, kin_8, by decide, (ktb1 156 (by decide +kernel) (by decide +kernel)), rfl⟩
set_option maxRecDepth 20000 in
theorem lf_RX8_31 : kGf RX8 31 8 7 := ⟨RX8, TX8, 9, "KeptParts$Trees", "queue", "[I", rfl, kin_8, by decide, (ktb1 161 (by decide +kernel) (by decide +kernel)), rfl⟩
set_option maxRecDepth 20000 in
theorem lf_RX8_34 : kGf RX8 34 8 8 := ⟨RX8, TX8, 9, "KeptParts$Trees", "side", "[I", rfl, kin_8, by decide, (ktb1 162 (by decide +kernel) (by decide +kernel)), rfl⟩
set_option maxRecDepth 20000 in
theorem lf_RX8_37 : kGf RX8 37 8 6 := ⟨RX8, TX8, 9, "KeptParts$Trees", "web", "LKeptParts$Web;", rfl, kin_8, by decide, (ktb1 160 (by decide +kernel) (by decide +kernel)), rfl⟩
set_option maxRecDepth 20000 in
theorem lf_RX8_41 : kGf RX8 41 10 3 := ⟨RX10, TX10, 10, "KeptParts$Web", "nodes", "I", rfl, kin_10, by decide, (ktb1 87 (by decide +kernel) (by decide +kernel)), rfl⟩
set_option maxRecDepth 20000 in
theorem lf_RX8_51 : kGf RX8 51 10 4 := ⟨RX10, TX10, 10, "KeptParts$Web", "count", "I", rfl, kin_10, by decide, (ktb1 97 (by decide +kernel) (by decide +kernel)), rfl⟩
set_option maxRecDepth 20000 in
theorem lf_RX8_54 : kGf RX8 54 10 2 := ⟨RX10, TX10, 10, "KeptParts$Web", "list", "[I", rfl, kin_10, by decide, (ktb1 82 (by decide +kernel) (by decide +kernel)), rfl⟩
set_option maxRecDepth 20000 in
theorem lf_RX8_67 : kGf RX8 67 10 0 := ⟨RX10, TX10, 10, "KeptParts$Web", "first", "[I", rfl, kin_10, by decide, (ktb1 68 (by decide +kernel) (by decide +kernel)), rfl⟩
set_option maxRecDepth 20000 in
theorem lf_RX8_70 : kGf RX8 70 10 1 := ⟨RX10, TX10, 10, "KeptParts$Web", "second", "[I", rfl, kin_10, by decide, (ktb1 76 (by decide +kernel) (by decide +kernel)), rfl⟩
set_option maxRecDepth 20000 in
theorem lf_RX8_9 : kGf RX8 9 8 0 := ⟨RX8, TX8, 9, "KeptParts$Trees", "level", "[I", rfl, kin_8, by decide, (ktb1 142 (by decide +kernel) (by decide +kernel)), rfl⟩
set_option maxRecDepth 20000 in
theorem lf_RX9_15 : kGf RX9 15 9 0 := ⟨RX9, TX9, 4, "KeptParts$Twice", "web", "LKeptParts$Web;", rfl, kin_9, by decide, (ktb1 204 (by decide +kernel) (by decide +kernel)), rfl⟩
set_option maxRecDepth 20000 in
theorem lf_RX9_19 : kGf RX9 19 9 1 := ⟨RX9, TX9, 4, "KeptParts$Twice", "trees", "LKeptParts$Trees;", rfl, kin_9, by decide, (ktb1 205 (by decide +kernel) (by decide +kernel)), rfl⟩
set_option maxRecDepth 20000 in
theorem lf_RX9_30 : kGf RX9 30 8 1 := ⟨RX8, TX8, 9, "KeptParts$Trees", "tree", "[Z", rfl, kin_8, by decide, (ktb1 146 (by decide +kernel) (by decide +kernel)), rfl⟩
set_option maxRecDepth 20000 in
theorem lf_RX9_36 : kGf RX9 36 10 0 := ⟨RX10, TX10, 10, "KeptParts$Web", "first", "[I", rfl, kin_10, by decide, (ktb1 65 (by decide +kernel) (by decide +kernel)), rfl⟩
set_option maxRecDepth 20000 in
theorem lf_RX9_41 : kGf RX9 41 10 1 := ⟨RX10, TX10, 10, "KeptParts$Web", "second", "[I", rfl, kin_10, by decide, (ktb1 73 (by decide +kernel) (by decide +kernel)), rfl⟩
set_option maxRecDepth 20000 in
theorem lf_RX9_48 : kGf RX9 48 10 4 := ⟨RX10, TX10, 10, "KeptParts$Web", "count", "I", rfl, kin_10, by decide, (ktb1 98 (by decide +kernel) (by decide +kernel)), rfl⟩
set_option maxRecDepth 20000 in
theorem lf_RX9_52 : kGf RX9 52 10 2 := ⟨RX10, TX10, 10, "KeptParts$Web", "list", "[I", rfl, kin_10, by decide, (ktb1 81 (by decide +kernel) (by decide +kernel)), rfl⟩
set_option maxRecDepth 20000 in
theorem lf_RX9_59 : kGf RX9 59 9 3 := ⟨RX9, TX9, 4, "KeptParts$Twice", "age", "I", rfl, kin_9, by decide, (ktb1 207 (by decide +kernel) (by decide +kernel)), rfl⟩
set_option maxRecDepth 20000 in
theorem lf_RX9_62 : kGf RX9 62 10 5 := ⟨RX10, TX10, 10, "KeptParts$Web", "age", "I", rfl, kin_10, by decide, (ktb1 103 (by decide +kernel) (by decide +kernel)), rfl⟩
set_option maxRecDepth 20000 in
theorem lf_RX9_63 : kGf RX9 63 10 3 := ⟨RX10, TX10, 10, "KeptParts$Web", "nodes", "I", rfl, kin_10, by decide, (ktb1 92 (by decide +kernel) (by decide +kernel)), rfl⟩
set_option maxRecDepth 20000 in
theorem lf_RX9_70 : kGf RX9 70 8 5 := ⟨RX8, TX8, 9, "KeptParts$Trees", "depth", "[I", rfl, kin_8, by decide, (ktb1 158 (by decide +kernel) (by decide +kernel)), rfl⟩
set_option maxRecDepth 20000 in
theorem lf_RX9_73 : kGf RX9 73 8 3 := ⟨RX8, TX8, 9, "KeptParts$Trees", "parent", "[I", rfl, kin_8, by decide, (ktb1 152 (by decide +kernel) (by decide +kernel)), rfl⟩
set_option maxRecDepth 20000 in
theorem lf_RX9_9 : kGf RX9 9 9 2 := ⟨RX9, TX9, 4, "KeptParts$Twice", "top", "[I", rfl, kin_9, by decide, (ktb1 206 (by decide +kernel) (by decide +kernel)), rfl⟩
set_option maxRecDepth 20000 in
theorem lm_RX0_32 : Cond.methodLink RX0 32 yX0_insert ∈ kTBL := (ktb3 232 (by decide +kernel) (by decide +kernel))
set_option maxRecDepth 20000 in
theorem lm_RX0_36 : (RX0, 36, yX11_leaveOut, RX11) ∈ kNW := by decide +kernel
set_option maxRecDepth 20000 in
theorem lm_RX0_40 : Cond.methodLink RX0 40 yX0_renew ∈ kTBL := (ktb4 66 (by decide +kernel) (by decide +kernel))
set_option maxRecDepth 20000 in
theorem lm_RX0_44 : Cond.methodLink RX0 44 yX0_isAhead ∈ kTBL := (ktb3 97 (by decide +kernel) (by decide +kernel))
set_option maxRecDepth 20000 in
theorem lm_RX0_48 : Cond.methodLink RX0 48 yX0_isFree ∈ kTBL := (ktb3 90 (by decide +kernel) (by decide +kernel))
set_option maxRecDepth 20000 in
theorem lm_RX0_52 : Cond.methodLink RX0 52 yX10_degree ∈ kTBL := (ktb3 94 (by decide +kernel) (by decide +kernel))
set_option maxRecDepth 20000 in
theorem lm_RX0_56 : Cond.methodLink RX0 56 yX10_arcAt ∈ kTBL := (ktb3 95 (by decide +kernel) (by decide +kernel))
set_option maxRecDepth 20000 in
theorem lm_RX0_60 : Cond.methodLink RX0 60 yX10_other ∈ kTBL := (ktb3 96 (by decide +kernel) (by decide +kernel))
set_option maxRecDepth 20000 in
theorem lm_RX10_45 : Cond.methodLink RX10 45 yX1_addNode ∈ kTBL := (ktb3 205 (by decide +kernel) (by decide +kernel))
set_option maxRecDepth 20000 in
theorem lm_RX10_51 : Cond.methodLink RX10 51 yX1_addArc ∈ kTBL := (ktb4 33 (by decide +kernel) (by decide +kernel))
set_option maxRecDepth 20000 in
theorem lm_RX10_55 : (RX10, 55, yX11_leaveOut, RX11) ∈ kNW := by decide +kernel
set_option maxRecDepth 20000 in
theorem lm_RX10_59 : Cond.methodLink RX10 59 yX1_removeArc ∈ kTBL := (ktb4 130 (by decide +kernel) (by decide +kernel))
set_option maxRecDepth 20000 in
theorem lm_RX10_62 : Cond.methodLink RX10 62 yX1_empty ∈ kTBL := (ktb3 109 (by decide +kernel) (by decide +kernel))
set_option maxRecDepth 20000 in
theorem lm_RX11_106 : Cond.methodLink RX11 106 yX4_forget ∈ kTBL := (ktb3 19 (by decide +kernel) (by decide +kernel))
set_option maxRecDepth 20000 in
theorem lm_RX11_110 : Cond.methodLink RX11 110 yX11_addNode ∈ kTBL := (ktb3 197 (by decide +kernel) (by decide +kernel))
set_option maxRecDepth 20000 in
theorem lm_RX11_119 : Cond.methodLink RX11 119 yX10_hasRoom ∈ kTBL := (ktb4 20 (by decide +kernel) (by decide +kernel))
set_option maxRecDepth 20000 in
theorem lm_RX11_125 : Cond.methodLink RX11 125 yX11_addArc ∈ kTBL := (ktb4 25 (by decide +kernel) (by decide +kernel))
set_option maxRecDepth 20000 in
theorem lm_RX11_129 : Cond.methodLink RX11 129 yX10_hasNode ∈ kTBL := (ktb4 78 (by decide +kernel) (by decide +kernel))
set_option maxRecDepth 20000 in
theorem lm_RX11_139 : Cond.methodLink RX11 139 yX5_tellRing ∈ kTBL := (ktb4 99 (by decide +kernel) (by decide +kernel))
set_option maxRecDepth 20000 in
theorem lm_RX11_143 : Cond.methodLink RX11 143 yX10_hasArc ∈ kTBL := (ktb4 118 (by decide +kernel) (by decide +kernel))
set_option maxRecDepth 20000 in
theorem lm_RX11_148 : Cond.methodLink RX11 148 yX10_removeArc ∈ kTBL := (ktb4 123 (by decide +kernel) (by decide +kernel))
set_option maxRecDepth 20000 in
theorem lm_RX11_152 : Cond.methodLink RX11 152 yX8_arcRemoved ∈ kTBL := (ktb4 135 (by decide +kernel) (by decide +kernel))
set_option maxRecDepth 20000 in
theorem lm_RX11_155 : Cond.methodLink RX11 155 yX5_arcRemoved ∈ kTBL := (ktb4 160 (by decide +kernel) (by decide +kernel))
set_option maxRecDepth 20000 in
theorem lm_RX11_163 : Cond.methodLink RX11 163 yX0_arcChanged ∈ kTBL := (ktb4 62 (by decide +kernel) (by decide +kernel))
set_option maxRecDepth 20000 in
theorem lm_RX11_167 : Cond.methodLink RX11 167 yX8_parts ∈ kTBL := (ktb4 164 (by decide +kernel) (by decide +kernel))
set_option maxRecDepth 20000 in
theorem lm_RX11_170 : Cond.methodLink RX11 170 yX0_reweigh ∈ kTBL := (ktb4 179 (by decide +kernel) (by decide +kernel))
set_option maxRecDepth 20000 in
theorem lm_RX11_173 : Cond.methodLink RX11 173 yX8_together ∈ kTBL := (ktb4 191 (by decide +kernel) (by decide +kernel))
set_option maxRecDepth 20000 in
theorem lm_RX11_176 : Cond.methodLink RX11 176 yX9_together ∈ kTBL := (ktb4 199 (by decide +kernel) (by decide +kernel))
set_option maxRecDepth 20000 in
theorem lm_RX11_177 : Cond.methodLink RX11 177 yX0_weightOf ∈ kTBL := (ktb4 222 (by decide +kernel) (by decide +kernel))
set_option maxRecDepth 20000 in
theorem lm_RX11_183 : Cond.methodLink RX11 183 yX7_leastOf ∈ kTBL := (ktb4 226 (by decide +kernel) (by decide +kernel))
set_option maxRecDepth 20000 in
theorem lm_RX11_186 : Cond.methodLink RX11 186 yX5_placeOf ∈ kTBL := (ktb5 4 (by decide +kernel) (by decide +kernel))
set_option maxRecDepth 20000 in
theorem lm_RX11_189 : Cond.methodLink RX11 189 yX6_coreOf ∈ kTBL := (ktb5 8 (by decide +kernel) (by decide +kernel))
set_option maxRecDepth 20000 in
theorem lm_RX11_192 : Cond.methodLink RX11 192 yX0_has ∈ kTBL := (ktb5 12 (by decide +kernel) (by decide +kernel))
set_option maxRecDepth 20000 in
theorem lm_RX11_195 : Cond.methodLink RX11 195 yX6_countOf ∈ kTBL := (ktb5 16 (by decide +kernel) (by decide +kernel))
set_option maxRecDepth 20000 in
theorem lm_RX11_201 : Cond.methodLink RX11 201 yX3_leastIn ∈ kTBL := (ktb5 20 (by decide +kernel) (by decide +kernel))
set_option maxRecDepth 20000 in
theorem lm_RX11_213 : Cond.methodLink RX11 213 yX3_has ∈ kTBL := (ktb5 37 (by decide +kernel) (by decide +kernel))
set_option maxRecDepth 20000 in
theorem lm_RX11_214 : Cond.methodLink RX11 214 yX9_isBridge ∈ kTBL := (ktb5 38 (by decide +kernel) (by decide +kernel))
set_option maxRecDepth 20000 in
theorem lm_RX11_222 : Cond.methodLink RX11 222 yX5_nodeAt ∈ kTBL := (ktb5 51 (by decide +kernel) (by decide +kernel))
set_option maxRecDepth 20000 in
theorem lm_RX11_227 : Cond.methodLink RX11 227 yX3_ringArc ∈ kTBL := (ktb5 63 (by decide +kernel) (by decide +kernel))
set_option maxRecDepth 20000 in
theorem lm_RX11_232 : Cond.methodLink RX11 232 yX5_ringArc ∈ kTBL := (ktb5 84 (by decide +kernel) (by decide +kernel))
set_option maxRecDepth 20000 in
theorem lm_RX11_234 : Cond.methodLink RX11 234 yX6_countedThrees ∈ kTBL := (ktb2 210 (by decide +kernel) (by decide +kernel))
set_option maxRecDepth 20000 in
theorem lm_RX11_238 : Cond.methodLink RX11 238 yX4_isFull ∈ kTBL := (ktb5 95 (by decide +kernel) (by decide +kernel))
set_option maxRecDepth 20000 in
theorem lm_RX11_244 : Cond.methodLink RX11 244 yX4_addPut ∈ kTBL := (ktb5 100 (by decide +kernel) (by decide +kernel))
set_option maxRecDepth 20000 in
theorem lm_RX11_247 : Cond.methodLink RX11 247 yX4_puts ∈ kTBL := (ktb5 112 (by decide +kernel) (by decide +kernel))
set_option maxRecDepth 20000 in
theorem lm_RX11_252 : Cond.methodLink RX11 252 yX4_takes ∈ kTBL := (ktb5 117 (by decide +kernel) (by decide +kernel))
set_option maxRecDepth 20000 in
theorem lm_RX11_260 : Cond.methodLink RX11 260 yX4_addTake ∈ kTBL := (ktb5 137 (by decide +kernel) (by decide +kernel))
set_option maxRecDepth 20000 in
theorem lm_RX11_268 : Cond.methodLink RX11 268 yX4_behind ∈ kTBL := (ktb5 149 (by decide +kernel) (by decide +kernel))
set_option maxRecDepth 20000 in
theorem lm_RX11_280 : Cond.methodLink RX11 280 yX4_arcsBehind ∈ kTBL := (ktb5 159 (by decide +kernel) (by decide +kernel))
set_option maxRecDepth 20000 in
theorem lm_RX11_285 : Cond.methodLink RX11 285 yX2_together ∈ kTBL := (ktb5 171 (by decide +kernel) (by decide +kernel))
set_option maxRecDepth 20000 in
theorem lm_RX11_289 : Cond.methodLink RX11 289 yX3_evenParts ∈ kTBL := (ktb5 179 (by decide +kernel) (by decide +kernel))
set_option maxRecDepth 20000 in
theorem lm_RX11_291 : Cond.methodLink RX11 291 yX9_bridges ∈ kTBL := (ktb5 184 (by decide +kernel) (by decide +kernel))
set_option maxRecDepth 20000 in
theorem lm_RX11_294 : Cond.methodLink RX11 294 yX7_parts ∈ kTBL := (ktb5 189 (by decide +kernel) (by decide +kernel))
set_option maxRecDepth 20000 in
theorem lm_RX11_295 : Cond.methodLink RX11 295 yX5_looseArcs ∈ kTBL := (ktb5 193 (by decide +kernel) (by decide +kernel))
set_option maxRecDepth 20000 in
theorem lm_RX11_298 : Cond.methodLink RX11 298 yX0_size ∈ kTBL := (ktb5 197 (by decide +kernel) (by decide +kernel))
set_option maxRecDepth 20000 in
theorem lm_RX11_301 : Cond.methodLink RX11 301 yX6_greatestCore ∈ kTBL := (ktb5 201 (by decide +kernel) (by decide +kernel))
set_option maxRecDepth 20000 in
theorem lm_RX11_304 : Cond.methodLink RX11 304 yX8_greatestLevel ∈ kTBL := (ktb5 206 (by decide +kernel) (by decide +kernel))
set_option maxRecDepth 20000 in
theorem lm_RX11_307 : Cond.methodLink RX11 307 yX8_treeArcs ∈ kTBL := (ktb5 207 (by decide +kernel) (by decide +kernel))
set_option maxRecDepth 20000 in
theorem lm_RX11_310 : Cond.methodLink RX11 310 yX8_spanJust ∈ kTBL := (ktb3 31 (by decide +kernel) (by decide +kernel))
set_option maxRecDepth 20000 in
theorem lm_RX11_314 : Cond.methodLink RX11 314 yX8_levelsHold ∈ kTBL := (ktb3 65 (by decide +kernel) (by decide +kernel))
set_option maxRecDepth 20000 in
theorem lm_RX11_317 : Cond.methodLink RX11 317 yX5_holds ∈ kTBL := (ktb3 78 (by decide +kernel) (by decide +kernel))
set_option maxRecDepth 20000 in
theorem lm_RX11_320 : Cond.methodLink RX11 320 yX6_holds ∈ kTBL := (ktb3 82 (by decide +kernel) (by decide +kernel))
set_option maxRecDepth 20000 in
theorem lm_RX11_323 : Cond.methodLink RX11 323 yX0_holds ∈ kTBL := (ktb3 86 (by decide +kernel) (by decide +kernel))
set_option maxRecDepth 20000 in
theorem lm_RX11_324 : Cond.methodLink RX11 324 yX10_empty ∈ kTBL := (ktb3 105 (by decide +kernel) (by decide +kernel))
set_option maxRecDepth 20000 in
theorem lm_RX11_327 : Cond.methodLink RX11 327 yX5_empty ∈ kTBL := (ktb3 113 (by decide +kernel) (by decide +kernel))
set_option maxRecDepth 20000 in
theorem lm_RX11_328 : Cond.methodLink RX11 328 yX10_addNode ∈ kTBL := (ktb3 201 (by decide +kernel) (by decide +kernel))
set_option maxRecDepth 20000 in
theorem lm_RX11_330 : Cond.methodLink RX11 330 yX8_nodeAdded ∈ kTBL := (ktb3 209 (by decide +kernel) (by decide +kernel))
set_option maxRecDepth 20000 in
theorem lm_RX11_333 : Cond.methodLink RX11 333 yX5_nodeAdded ∈ kTBL := (ktb3 224 (by decide +kernel) (by decide +kernel))
set_option maxRecDepth 20000 in
theorem lm_RX11_334 : Cond.methodLink RX11 334 yX0_nodeAdded ∈ kTBL := (ktb3 228 (by decide +kernel) (by decide +kernel))
set_option maxRecDepth 20000 in
theorem lm_RX11_337 : Cond.methodLink RX11 337 yX10_addArc ∈ kTBL := (ktb4 29 (by decide +kernel) (by decide +kernel))
set_option maxRecDepth 20000 in
theorem lm_RX11_339 : Cond.methodLink RX11 339 yX8_arcAdded ∈ kTBL := (ktb4 37 (by decide +kernel) (by decide +kernel))
set_option maxRecDepth 20000 in
theorem lm_RX11_342 : Cond.methodLink RX11 342 yX5_arcAdded ∈ kTBL := (ktb4 45 (by decide +kernel) (by decide +kernel))
set_option maxRecDepth 20000 in
theorem lm_RX12_152 : Cond.methodLink RX12 152 yX12_walk ∈ kTBL := (ktb6 154 (by decide +kernel) (by decide +kernel))
set_option maxRecDepth 20000 in
theorem lm_RX12_156 : Cond.methodLink RX12 156 yX12_leastMet ∈ kTBL := (ktb6 203 (by decide +kernel) (by decide +kernel))
set_option maxRecDepth 20000 in
theorem lm_RX12_160 : Cond.methodLink RX12 160 yX12_partOf ∈ kTBL := (ktb6 199 (by decide +kernel) (by decide +kernel))
set_option maxRecDepth 20000 in
theorem lm_RX12_164 : Cond.methodLink RX12 164 yX12_fail ∈ kTBL := (ktb6 134 (by decide +kernel) (by decide +kernel))
set_option maxRecDepth 20000 in
theorem lm_RX12_170 : Cond.methodLink RX12 170 yX12_one ∈ kTBL := (ktb6 138 (by decide +kernel) (by decide +kernel))
set_option maxRecDepth 20000 in
theorem lm_RX12_172 : Cond.methodLink RX12 172 yX12_put ∈ kTBL := (ktb6 146 (by decide +kernel) (by decide +kernel))
set_option maxRecDepth 20000 in
theorem lm_RX12_176 : Cond.methodLink RX12 176 yX12_isNode ∈ kTBL := (ktb6 150 (by decide +kernel) (by decide +kernel))
set_option maxRecDepth 20000 in
theorem lm_RX12_180 : Cond.methodLink RX12 180 yX12_tellRing ∈ kTBL := (ktb6 158 (by decide +kernel) (by decide +kernel))
set_option maxRecDepth 20000 in
theorem lm_RX12_184 : Cond.methodLink RX12 184 yX12_keepSet ∈ kTBL := (ktb6 162 (by decide +kernel) (by decide +kernel))
set_option maxRecDepth 20000 in
theorem lm_RX12_187 : Cond.methodLink RX12 187 yX12_becomeOrdered ∈ kTBL := (ktb6 174 (by decide +kernel) (by decide +kernel))
set_option maxRecDepth 20000 in
theorem lm_RX12_191 : Cond.methodLink RX12 191 yX12_differ ∈ kTBL := (ktb6 178 (by decide +kernel) (by decide +kernel))
set_option maxRecDepth 20000 in
theorem lm_RX12_200 : Cond.methodLink RX12 200 yX12_isArc ∈ kTBL := (ktb6 187 (by decide +kernel) (by decide +kernel))
set_option maxRecDepth 20000 in
theorem lm_RX12_203 : Cond.methodLink RX12 203 yX12_replace ∈ kTBL := (ktb6 191 (by decide +kernel) (by decide +kernel))
set_option maxRecDepth 20000 in
theorem lm_RX12_206 : Cond.methodLink RX12 206 yX12_partsNow ∈ kTBL := (ktb6 195 (by decide +kernel) (by decide +kernel))
set_option maxRecDepth 20000 in
theorem lm_RX12_209 : Cond.methodLink RX12 209 yX12_neighbours ∈ kTBL := (ktb6 170 (by decide +kernel) (by decide +kernel))
set_option maxRecDepth 20000 in
theorem lm_RX12_212 : Cond.methodLink RX12 212 yX12_theSet ∈ kTBL := (ktb6 166 (by decide +kernel) (by decide +kernel))
set_option maxRecDepth 20000 in
theorem lm_RX12_215 : Cond.methodLink RX12 215 yX12_other ∈ kTBL := (ktb6 219 (by decide +kernel) (by decide +kernel))
set_option maxRecDepth 20000 in
theorem lm_RX12_218 : Cond.methodLink RX12 218 yX12_strongOf ∈ kTBL := (ktb6 227 (by decide +kernel) (by decide +kernel))
set_option maxRecDepth 20000 in
theorem lm_RX12_221 : Cond.methodLink RX12 221 yX12_cores ∈ kTBL := (ktb6 231 (by decide +kernel) (by decide +kernel))
set_option maxRecDepth 20000 in
theorem lm_RX12_224 : Cond.methodLink RX12 224 yX12_oddOf ∈ kTBL := (ktb6 235 (by decide +kernel) (by decide +kernel))
set_option maxRecDepth 20000 in
theorem lm_RX12_227 : Cond.methodLink RX12 227 yX12_isOdd ∈ kTBL := (ktb7 3 (by decide +kernel) (by decide +kernel))
set_option maxRecDepth 20000 in
theorem lm_RX12_230 : Cond.methodLink RX12 230 yX12_isBridge ∈ kTBL := (ktb7 7 (by decide +kernel) (by decide +kernel))
set_option maxRecDepth 20000 in
theorem lm_RX12_233 : Cond.methodLink RX12 233 yX12_isTaken ∈ kTBL := (ktb7 35 (by decide +kernel) (by decide +kernel))
set_option maxRecDepth 20000 in
theorem lm_RX12_240 : Cond.methodLink RX12 240 yX12_spread ∈ kTBL := (ktb7 47 (by decide +kernel) (by decide +kernel))
set_option maxRecDepth 20000 in
theorem lm_RX12_243 : Cond.methodLink RX12 243 yX12_plan ∈ kTBL := (ktb7 43 (by decide +kernel) (by decide +kernel))
set_option maxRecDepth 20000 in
theorem lm_RX12_246 : Cond.methodLink RX12 246 yX12_ofArcs ∈ kTBL := (ktb7 63 (by decide +kernel) (by decide +kernel))
set_option maxRecDepth 20000 in
theorem lm_RX12_249 : Cond.methodLink RX12 249 yX12_told ∈ kTBL := (ktb7 71 (by decide +kernel) (by decide +kernel))
set_option maxRecDepth 20000 in
theorem lm_RX1_25 : (RX1, 25, yX11_leaveOut, RX11) ∈ kNW := by decide +kernel
set_option maxRecDepth 20000 in
theorem lm_RX2_41 : Cond.methodLink RX2 41 yX2_headOf ∈ kTBL := (ktb3 46 (by decide +kernel) (by decide +kernel))
set_option maxRecDepth 20000 in
theorem lm_RX2_45 : Cond.methodLink RX2 45 yX2_sideOf ∈ kTBL := (ktb3 50 (by decide +kernel) (by decide +kernel))
set_option maxRecDepth 20000 in
theorem lm_RX2_48 : Cond.methodLink RX2 48 yX2_hang ∈ kTBL := (ktb3 54 (by decide +kernel) (by decide +kernel))
set_option maxRecDepth 20000 in
theorem lm_RX3_47 : Cond.methodLink RX3 47 yX3_has ∈ kTBL := (ktb5 24 (by decide +kernel) (by decide +kernel))
set_option maxRecDepth 20000 in
theorem lm_RX3_51 : Cond.methodLink RX3 51 yX8_together ∈ kTBL := (ktb5 28 (by decide +kernel) (by decide +kernel))
set_option maxRecDepth 20000 in
theorem lm_RX3_58 : Cond.methodLink RX3 58 yX8_parts ∈ kTBL := (ktb5 183 (by decide +kernel) (by decide +kernel))
set_option maxRecDepth 20000 in
theorem lm_RX3_65 : Cond.methodLink RX3 65 yX3_leastIn ∈ kTBL := (ktb5 67 (by decide +kernel) (by decide +kernel))
set_option maxRecDepth 20000 in
theorem lm_RX3_69 : Cond.methodLink RX3 69 yX3_meeting ∈ kTBL := (ktb5 68 (by decide +kernel) (by decide +kernel))
set_option maxRecDepth 20000 in
theorem lm_RX3_76 : Cond.methodLink RX3 76 yX3_climb ∈ kTBL := (ktb5 72 (by decide +kernel) (by decide +kernel))
set_option maxRecDepth 20000 in
theorem lm_RX4_49 : Cond.methodLink RX4 49 yX4_setTaker ∈ kTBL := (ktb3 23 (by decide +kernel) (by decide +kernel))
set_option maxRecDepth 20000 in
theorem lm_RX4_61 : Cond.methodLink RX4 61 yX2_begin ∈ kTBL := (ktb5 153 (by decide +kernel) (by decide +kernel))
set_option maxRecDepth 20000 in
theorem lm_RX4_70 : Cond.methodLink RX4 70 yX4_isLeft ∈ kTBL := (ktb5 154 (by decide +kernel) (by decide +kernel))
set_option maxRecDepth 20000 in
theorem lm_RX4_76 : Cond.methodLink RX4 76 yX2_join ∈ kTBL := (ktb5 158 (by decide +kernel) (by decide +kernel))
set_option maxRecDepth 20000 in
theorem lm_RX5_61 : Cond.methodLink RX5 61 yX5_reaches ∈ kTBL := (ktb4 103 (by decide +kernel) (by decide +kernel))
set_option maxRecDepth 20000 in
theorem lm_RX5_65 : Cond.methodLink RX5 65 yX5_nextOnRing ∈ kTBL := (ktb4 107 (by decide +kernel) (by decide +kernel))
set_option maxRecDepth 20000 in
theorem lm_RX5_69 : Cond.methodLink RX5 69 yX5_setRight ∈ kTBL := (ktb4 49 (by decide +kernel) (by decide +kernel))
set_option maxRecDepth 20000 in
theorem lm_RX5_88 : Cond.methodLink RX5 88 yX5_spread ∈ kTBL := (ktb4 53 (by decide +kernel) (by decide +kernel))
set_option maxRecDepth 20000 in
theorem lm_RX5_92 : Cond.methodLink RX5 92 yX5_pick ∈ kTBL := (ktb4 58 (by decide +kernel) (by decide +kernel))
set_option maxRecDepth 20000 in
theorem lm_RX5_96 : Cond.methodLink RX5 96 yJ7_fill_53178 ∈ kTBL := (ktb4 57 (by decide +kernel) (by decide +kernel))
set_option maxRecDepth 20000 in
theorem lm_RX6_34 : Cond.methodLink RX6 34 yX6_look ∈ kTBL := (ktb2 214 (by decide +kernel) (by decide +kernel))
set_option maxRecDepth 20000 in
theorem lm_RX6_53 : Cond.methodLink RX6 53 yX6_renew ∈ kTBL := (ktb2 218 (by decide +kernel) (by decide +kernel))
set_option maxRecDepth 20000 in
theorem lm_RX6_60 : Cond.methodLink RX6 60 yX6_findNear ∈ kTBL := (ktb2 222 (by decide +kernel) (by decide +kernel))
set_option maxRecDepth 20000 in
theorem lm_RX6_63 : Cond.methodLink RX6 63 yX6_findCores ∈ kTBL := (ktb2 239 (by decide +kernel) (by decide +kernel))
set_option maxRecDepth 20000 in
theorem lm_RX6_66 : Cond.methodLink RX6 66 yX6_countThrees ∈ kTBL := (ktb3 7 (by decide +kernel) (by decide +kernel))
set_option maxRecDepth 20000 in
theorem lm_RX6_70 : Cond.methodLink RX6 70 yJ7_fill_53178 ∈ kTBL := (ktb2 226 (by decide +kernel) (by decide +kernel))
set_option maxRecDepth 20000 in
theorem lm_RX6_76 : Cond.methodLink RX6 76 yX10_degree ∈ kTBL := (ktb2 227 (by decide +kernel) (by decide +kernel))
set_option maxRecDepth 20000 in
theorem lm_RX6_80 : Cond.methodLink RX6 80 yX10_arcAt ∈ kTBL := (ktb2 231 (by decide +kernel) (by decide +kernel))
set_option maxRecDepth 20000 in
theorem lm_RX6_83 : Cond.methodLink RX6 83 yX10_other ∈ kTBL := (ktb2 235 (by decide +kernel) (by decide +kernel))
set_option maxRecDepth 20000 in
theorem lm_RX6_86 : Cond.methodLink RX6 86 yX6_peel ∈ kTBL := (ktb3 3 (by decide +kernel) (by decide +kernel))
set_option maxRecDepth 20000 in
theorem lm_RX6_89 : Cond.methodLink RX6 89 yX6_markedBehind ∈ kTBL := (ktb3 11 (by decide +kernel) (by decide +kernel))
set_option maxRecDepth 20000 in
theorem lm_RX7_28 : Cond.methodLink RX7 28 yX7_look ∈ kTBL := (ktb4 230 (by decide +kernel) (by decide +kernel))
set_option maxRecDepth 20000 in
theorem lm_RX7_41 : Cond.methodLink RX7 41 yJ7_fill_53178 ∈ kTBL := (ktb4 234 (by decide +kernel) (by decide +kernel))
set_option maxRecDepth 20000 in
theorem lm_RX7_50 : Cond.methodLink RX7 50 yX7_leave ∈ kTBL := (ktb4 235 (by decide +kernel) (by decide +kernel))
set_option maxRecDepth 20000 in
theorem lm_RX7_54 : Cond.methodLink RX7 54 yX7_collect ∈ kTBL := (ktb4 239 (by decide +kernel) (by decide +kernel))
set_option maxRecDepth 20000 in
theorem lm_RX8_101 : Cond.methodLink RX8 101 yX2_begin ∈ kTBL := (ktb3 35 (by decide +kernel) (by decide +kernel))
set_option maxRecDepth 20000 in
theorem lm_RX8_106 : Cond.methodLink RX8 106 yX2_join ∈ kTBL := (ktb3 42 (by decide +kernel) (by decide +kernel))
set_option maxRecDepth 20000 in
theorem lm_RX8_109 : Cond.methodLink RX8 109 yX2_together ∈ kTBL := (ktb3 61 (by decide +kernel) (by decide +kernel))
set_option maxRecDepth 20000 in
theorem lm_RX8_110 : Cond.methodLink RX8 110 yX8_greatestLevel ∈ kTBL := (ktb3 69 (by decide +kernel) (by decide +kernel))
set_option maxRecDepth 20000 in
theorem lm_RX8_113 : Cond.methodLink RX8 113 yX8_greatestTree ∈ kTBL := (ktb3 74 (by decide +kernel) (by decide +kernel))
set_option maxRecDepth 20000 in
theorem lm_RX8_120 : Cond.methodLink RX8 120 yX10_degree ∈ kTBL := (ktb3 221 (by decide +kernel) (by decide +kernel))
set_option maxRecDepth 20000 in
theorem lm_RX8_124 : Cond.methodLink RX8 124 yX10_arcAt ∈ kTBL := (ktb3 222 (by decide +kernel) (by decide +kernel))
set_option maxRecDepth 20000 in
theorem lm_RX8_127 : Cond.methodLink RX8 127 yX10_other ∈ kTBL := (ktb3 223 (by decide +kernel) (by decide +kernel))
set_option maxRecDepth 20000 in
theorem lm_RX8_130 : Cond.methodLink RX8 130 yX8_place ∈ kTBL := (ktb3 217 (by decide +kernel) (by decide +kernel))
set_option maxRecDepth 20000 in
theorem lm_RX8_47 : Cond.methodLink RX8 47 yX8_treeArcs ∈ kTBL := (ktb4 168 (by decide +kernel) (by decide +kernel))
set_option maxRecDepth 20000 in
theorem lm_RX8_63 : Cond.methodLink RX8 63 yX8_hang ∈ kTBL := (ktb3 213 (by decide +kernel) (by decide +kernel))
set_option maxRecDepth 20000 in
theorem lm_RX8_73 : Cond.methodLink RX8 73 yX8_together ∈ kTBL := (ktb4 41 (by decide +kernel) (by decide +kernel))
set_option maxRecDepth 20000 in
theorem lm_RX8_77 : Cond.methodLink RX8 77 yX8_mend ∈ kTBL := (ktb4 139 (by decide +kernel) (by decide +kernel))
set_option maxRecDepth 20000 in
theorem lm_RX8_81 : Cond.methodLink RX8 81 yX8_hangAll ∈ kTBL := (ktb4 156 (by decide +kernel) (by decide +kernel))
set_option maxRecDepth 20000 in
theorem lm_RX8_84 : Cond.methodLink RX8 84 yJ7_fill_53178 ∈ kTBL := (ktb4 143 (by decide +kernel) (by decide +kernel))
set_option maxRecDepth 20000 in
theorem lm_RX8_90 : Cond.methodLink RX8 90 yX8_gather ∈ kTBL := (ktb4 144 (by decide +kernel) (by decide +kernel))
set_option maxRecDepth 20000 in
theorem lm_RX8_94 : Cond.methodLink RX8 94 yX8_raiseTree ∈ kTBL := (ktb4 148 (by decide +kernel) (by decide +kernel))
set_option maxRecDepth 20000 in
theorem lm_RX8_98 : Cond.methodLink RX8 98 yX8_replace ∈ kTBL := (ktb4 152 (by decide +kernel) (by decide +kernel))
set_option maxRecDepth 20000 in
theorem lm_RX9_23 : Cond.methodLink RX9 23 yX9_look ∈ kTBL := (ktb4 203 (by decide +kernel) (by decide +kernel))
set_option maxRecDepth 20000 in
theorem lm_RX9_26 : Cond.methodLink RX9 26 yX9_topOf ∈ kTBL := (ktb4 211 (by decide +kernel) (by decide +kernel))
set_option maxRecDepth 20000 in
theorem lm_RX9_44 : Cond.methodLink RX9 44 yX9_together ∈ kTBL := (ktb5 42 (by decide +kernel) (by decide +kernel))
set_option maxRecDepth 20000 in
theorem lm_RX9_55 : Cond.methodLink RX9 55 yX9_isBridge ∈ kTBL := (ktb5 188 (by decide +kernel) (by decide +kernel))
set_option maxRecDepth 20000 in
theorem lm_RX9_66 : Cond.methodLink RX9 66 yX9_tie ∈ kTBL := (ktb4 207 (by decide +kernel) (by decide +kernel))
set_option maxRecDepth 20000 in
theorem lp_RX10_35 : kPf RX10 35 10 3 := ⟨RX10, TX10, 10, tyX10, "KeptParts$Web", "nodes", "I", rfl, kin_10, tyX10_ok, nmX10, by decide, (ktb1 86 (by decide +kernel) (by decide +kernel)), rfl, kfl_of (by decide +kernel)⟩
set_option maxRecDepth 20000 in
theorem lp_RX10_39 : kPf RX10 39 10 9 := ⟨RX10, TX10, 10, tyX10, "KeptParts$Web", "numbers", "I", rfl, kin_10, tyX10_ok, nmX10, by decide, (ktb1 113 (by decide +kernel) (by decide +kernel)), rfl, kfl_of (by decide +kernel)⟩
set_option maxRecDepth 20000 in
theorem lp_RX10_42 : kPf RX10 42 10 4 := ⟨RX10, TX10, 10, tyX10, "KeptParts$Web", "count", "I", rfl, kin_10, tyX10_ok, nmX10, by decide, (ktb1 96 (by decide +kernel) (by decide +kernel)), rfl, kfl_of (by decide +kernel)⟩
set_option maxRecDepth 20000 in
theorem lp_RX10_48 : kPf RX10 48 10 5 := ⟨RX10, TX10, 10, tyX10, "KeptParts$Web", "age", "I", rfl, kin_10, tyX10_ok, nmX10, by decide, (ktb1 104 (by decide +kernel) (by decide +kernel)), rfl, kfl_of (by decide +kernel)⟩
set_option maxRecDepth 20000 in
theorem lp_RX11_92 : kPf RX11 92 11 12 := ⟨RX11, TX11, 13, tyX11, "KeptParts", "moved", "I", rfl, kin_11, tyX11_ok, nmX11, by decide, (ktb2 178 (by decide +kernel) (by decide +kernel)), rfl, kfl_of (by decide +kernel)⟩
set_option maxRecDepth 20000 in
theorem lp_RX12_136 : kPf RX12 136 12 22 := ⟨RX12, TX12, 50, tyX12, "KeptPartsModel", "thrown", "I", rfl, kin_12, tyX12_ok, nmX12, by decide, (ktb5 237 (by decide +kernel) (by decide +kernel)), rfl, kfl_of (by decide +kernel)⟩
set_option maxRecDepth 20000 in
theorem lp_RX12_140 : kPf RX12 140 12 1 := ⟨RX12, TX12, 50, tyX12, "KeptPartsModel", "nodes", "I", rfl, kin_12, tyX12_ok, nmX12, by decide, (ktb5 216 (by decide +kernel) (by decide +kernel)), rfl, kfl_of (by decide +kernel)⟩
set_option maxRecDepth 20000 in
theorem lp_RX12_143 : kPf RX12 143 12 3 := ⟨RX12, TX12, 50, tyX12, "KeptPartsModel", "arcs", "I", rfl, kin_12, tyX12_ok, nmX12, by decide, (ktb5 218 (by decide +kernel) (by decide +kernel)), rfl, kfl_of (by decide +kernel)⟩
set_option maxRecDepth 20000 in
theorem lp_RX12_146 : kPf RX12 146 12 10 := ⟨RX12, TX12, 50, tyX12, "KeptPartsModel", "there", "I", rfl, kin_12, tyX12_ok, nmX12, by decide, (ktb5 225 (by decide +kernel) (by decide +kernel)), rfl, kfl_of (by decide +kernel)⟩
set_option maxRecDepth 20000 in
theorem lp_RX12_149 : kPf RX12 149 12 27 := ⟨RX12, TX12, 50, tyX12, "KeptPartsModel", "met", "I", rfl, kin_12, tyX12_ok, nmX12, by decide, (ktb6 2 (by decide +kernel) (by decide +kernel)), rfl, kfl_of (by decide +kernel)⟩
set_option maxRecDepth 20000 in
theorem lp_RX12_167 : kPf RX12 167 12 17 := ⟨RX12, TX12, 50, tyX12, "KeptPartsModel", "steps", "I", rfl, kin_12, tyX12_ok, nmX12, by decide, (ktb5 232 (by decide +kernel) (by decide +kernel)), rfl, kfl_of (by decide +kernel)⟩
set_option maxRecDepth 20000 in
theorem lp_RX12_194 : kPf RX12 194 12 16 := ⟨RX12, TX12, 50, tyX12, "KeptPartsModel", "moved", "I", rfl, kin_12, tyX12_ok, nmX12, by decide, (ktb5 231 (by decide +kernel) (by decide +kernel)), rfl, kfl_of (by decide +kernel)⟩
set_option maxRecDepth 20000 in
theorem lp_RX12_197 : kPf RX12 197 12 14 := ⟨RX12, TX12, 50, tyX12, "KeptPartsModel", "rings", "I", rfl, kin_12, tyX12_ok, nmX12, by decide, (ktb5 229 (by decide +kernel) (by decide +kernel)), rfl, kfl_of (by decide +kernel)⟩
set_option maxRecDepth 20000 in
theorem lp_RX12_237 : kPf RX12 237 12 44 := ⟨RX12, TX12, 50, tyX12, "KeptPartsModel", "planned", "I", rfl, kin_12, tyX12_ok, nmX12, by decide, (ktb6 19 (by decide +kernel) (by decide +kernel)), rfl, kfl_of (by decide +kernel)⟩
set_option maxRecDepth 20000 in
theorem lp_RX1_18 : kPf RX1 18 1 2 := ⟨RX1, TX1, 4, tyX1, "KeptParts$Fan", "nodes", "I", rfl, kin_1, tyX1_ok, nmX1, by decide, (ktb1 51 (by decide +kernel) (by decide +kernel)), rfl, kfl_of (by decide +kernel)⟩
set_option maxRecDepth 20000 in
theorem lp_RX1_22 : kPf RX1 22 1 3 := ⟨RX1, TX1, 4, tyX1, "KeptParts$Fan", "count", "I", rfl, kin_1, tyX1_ok, nmX1, by decide, (ktb1 52 (by decide +kernel) (by decide +kernel)), rfl, kfl_of (by decide +kernel)⟩
set_option maxRecDepth 20000 in
theorem lp_RX2_25 : kPf RX2 25 2 0 := ⟨RX2, TX2, 7, tyX2, "KeptParts$Joiner", "parts", "I", rfl, kin_2, tyX2_ok, nmX2, by decide, (ktb2 102 (by decide +kernel) (by decide +kernel)), rfl, kfl_of (by decide +kernel)⟩
set_option maxRecDepth 20000 in
theorem lp_RX2_29 : kPf RX2 29 2 1 := ⟨RX2, TX2, 7, tyX2, "KeptParts$Joiner", "evenParts", "I", rfl, kin_2, tyX2_ok, nmX2, by decide, (ktb2 104 (by decide +kernel) (by decide +kernel)), rfl, kfl_of (by decide +kernel)⟩
set_option maxRecDepth 20000 in
theorem lp_RX2_38 : kPf RX2 38 2 2 := ⟨RX2, TX2, 7, tyX2, "KeptParts$Joiner", "greatest", "I", rfl, kin_2, tyX2_ok, nmX2, by decide, (ktb2 106 (by decide +kernel) (by decide +kernel)), rfl, kfl_of (by decide +kernel)⟩
set_option maxRecDepth 20000 in
theorem lp_RX4_45 : kPf RX4 45 4 0 := ⟨RX4, TX4, 9, tyX4, "KeptParts$Plan", "steps", "I", rfl, kin_4, tyX4_ok, nmX4, by decide, (ktb2 137 (by decide +kernel) (by decide +kernel)), rfl, kfl_of (by decide +kernel)⟩
set_option maxRecDepth 20000 in
theorem lp_RX5_41 : kPf RX5 41 5 9 := ⟨RX5, TX5, 10, tyX5, "KeptParts$Row", "ringLength", "I", rfl, kin_5, tyX5_ok, nmX5, by decide, (ktb1 233 (by decide +kernel) (by decide +kernel)), rfl, kfl_of (by decide +kernel)⟩
set_option maxRecDepth 20000 in
theorem lp_RX6_49 : kPf RX6 49 6 7 := ⟨RX6, TX6, 9, tyX6, "KeptParts$Sides", "threes", "J", rfl, kin_6, tyX6_ok, nmX6, by decide, (ktb2 56 (by decide +kernel) (by decide +kernel)), rfl, kfl_of (by decide +kernel)⟩
set_option maxRecDepth 20000 in
theorem lp_RX6_56 : kPf RX6 56 6 8 := ⟨RX6, TX6, 9, tyX6, "KeptParts$Sides", "age", "I", rfl, kin_6, tyX6_ok, nmX6, by decide, (ktb2 57 (by decide +kernel) (by decide +kernel)), rfl, kfl_of (by decide +kernel)⟩
set_option maxRecDepth 20000 in
theorem lp_RX7_37 : kPf RX7 37 7 6 := ⟨RX7, TX7, 7, tyX7, "KeptParts$Strong", "age", "I", rfl, kin_7, tyX7_ok, nmX7, by decide, (ktb2 27 (by decide +kernel) (by decide +kernel)), rfl, kfl_of (by decide +kernel)⟩
set_option maxRecDepth 20000 in
theorem lp_RX7_47 : kPf RX7 47 7 5 := ⟨RX7, TX7, 7, tyX7, "KeptParts$Strong", "leftCount", "I", rfl, kin_7, tyX7_ok, nmX7, by decide, (ktb2 26 (by decide +kernel) (by decide +kernel)), rfl, kfl_of (by decide +kernel)⟩
set_option maxRecDepth 20000 in
theorem lp_RX9_59 : kPf RX9 59 9 3 := ⟨RX9, TX9, 4, tyX9, "KeptParts$Twice", "age", "I", rfl, kin_9, tyX9_ok, nmX9, by decide, (ktb1 207 (by decide +kernel) (by decide +kernel)), rfl, kfl_of (by decide +kernel)⟩
set_option maxRecDepth 20000 in
theorem mv_Ar_fill : kMs yJ7_fill_53178 cJ7_fill_53178 4 none 2 := ⟨(ktb2 136 (by decide +kernel) (by decide +kernel)), (ktb2 135 (by decide +kernel) (by decide +kernel)), (ktb1 13 (by decide +kernel) (by decide +kernel)), ⟨by decide +kernel, by decide +kernel⟩, by decide +kernel⟩
set_option maxRecDepth 20000 in
theorem mv_Chosen_arcChanged : kMv yX0_arcChanged cX0_arcChanged 4 (some .int) 0 2 := ⟨(ktb4 65 (by decide +kernel) (by decide +kernel)), (ktb4 63 (by decide +kernel) (by decide +kernel)), (ktb4 64 (by decide +kernel) (by decide +kernel)), (ktb1 10 (by decide +kernel) (by decide +kernel)), ⟨_, _, rfl⟩, ⟨by decide +kernel, by decide +kernel⟩, by decide +kernel⟩
set_option maxRecDepth 20000 in
theorem mv_Chosen_has : kMv yX0_has cX0_has 2 (some .boolean) 0 1 := ⟨(ktb5 15 (by decide +kernel) (by decide +kernel)), (ktb5 13 (by decide +kernel) (by decide +kernel)), (ktb5 14 (by decide +kernel) (by decide +kernel)), (ktb1 10 (by decide +kernel) (by decide +kernel)), ⟨_, _, rfl⟩, ⟨by decide +kernel, by decide +kernel⟩, by decide +kernel⟩
set_option maxRecDepth 20000 in
theorem mv_Chosen_holds : kMv yX0_holds cX0_holds 2 (some .boolean) 0 0 := ⟨(ktb3 89 (by decide +kernel) (by decide +kernel)), (ktb3 87 (by decide +kernel) (by decide +kernel)), (ktb3 88 (by decide +kernel) (by decide +kernel)), (ktb1 10 (by decide +kernel) (by decide +kernel)), ⟨_, _, rfl⟩, ⟨by decide +kernel, by decide +kernel⟩, by decide +kernel⟩
set_option maxRecDepth 20000 in
theorem mv_Chosen_insert : kMv yX0_insert cX0_insert 5 none 0 2 := ⟨(ktb3 235 (by decide +kernel) (by decide +kernel)), (ktb3 234 (by decide +kernel) (by decide +kernel)), (ktb0 18 (by decide +kernel) (by decide +kernel)), (ktb1 10 (by decide +kernel) (by decide +kernel)), ⟨_, _, rfl⟩, ⟨by decide +kernel, by decide +kernel⟩, by decide +kernel⟩
set_option maxRecDepth 20000 in
theorem mv_Chosen_isAhead : kMv yX0_isAhead cX0_isAhead 3 (some .boolean) 0 2 := ⟨(ktb3 100 (by decide +kernel) (by decide +kernel)), (ktb3 99 (by decide +kernel) (by decide +kernel)), (ktb0 13 (by decide +kernel) (by decide +kernel)), (ktb1 10 (by decide +kernel) (by decide +kernel)), ⟨_, _, rfl⟩, ⟨by decide +kernel, by decide +kernel⟩, by decide +kernel⟩
set_option maxRecDepth 20000 in
theorem mv_Chosen_isFree : kMv yX0_isFree cX0_isFree 5 (some .boolean) 0 1 := ⟨(ktb3 93 (by decide +kernel) (by decide +kernel)), (ktb3 92 (by decide +kernel) (by decide +kernel)), (ktb0 12 (by decide +kernel) (by decide +kernel)), (ktb1 10 (by decide +kernel) (by decide +kernel)), ⟨_, _, rfl⟩, ⟨by decide +kernel, by decide +kernel⟩, by decide +kernel⟩
set_option maxRecDepth 20000 in
theorem mv_Chosen_nodeAdded : kMv yX0_nodeAdded cX0_nodeAdded 3 none 0 2 := ⟨(ktb3 231 (by decide +kernel) (by decide +kernel)), (ktb3 229 (by decide +kernel) (by decide +kernel)), (ktb3 230 (by decide +kernel) (by decide +kernel)), (ktb1 10 (by decide +kernel) (by decide +kernel)), ⟨_, _, rfl⟩, ⟨by decide +kernel, by decide +kernel⟩, by decide +kernel⟩
set_option maxRecDepth 20000 in
theorem mv_Chosen_renew : kMv yX0_renew cX0_renew 5 (some .int) 0 0 := ⟨(ktb4 69 (by decide +kernel) (by decide +kernel)), (ktb4 68 (by decide +kernel) (by decide +kernel)), (ktb0 23 (by decide +kernel) (by decide +kernel)), (ktb1 10 (by decide +kernel) (by decide +kernel)), ⟨_, _, rfl⟩, ⟨by decide +kernel, by decide +kernel⟩, by decide +kernel⟩
set_option maxRecDepth 20000 in
theorem mv_Chosen_reweigh : kMv yX0_reweigh cX0_reweigh 4 (some .int) 0 2 := ⟨(ktb4 182 (by decide +kernel) (by decide +kernel)), (ktb4 180 (by decide +kernel) (by decide +kernel)), (ktb4 181 (by decide +kernel) (by decide +kernel)), (ktb1 10 (by decide +kernel) (by decide +kernel)), ⟨_, _, rfl⟩, ⟨by decide +kernel, by decide +kernel⟩, by decide +kernel⟩
set_option maxRecDepth 20000 in
theorem mv_Chosen_size : kMv yX0_size cX0_size 3 (some .int) 0 0 := ⟨(ktb5 200 (by decide +kernel) (by decide +kernel)), (ktb5 198 (by decide +kernel) (by decide +kernel)), (ktb5 199 (by decide +kernel) (by decide +kernel)), (ktb1 10 (by decide +kernel) (by decide +kernel)), ⟨_, _, rfl⟩, ⟨by decide +kernel, by decide +kernel⟩, by decide +kernel⟩
set_option maxRecDepth 20000 in
theorem mv_Chosen_weightOf : kMv yX0_weightOf cX0_weightOf 2 (some .int) 0 1 := ⟨(ktb4 225 (by decide +kernel) (by decide +kernel)), (ktb4 223 (by decide +kernel) (by decide +kernel)), (ktb4 224 (by decide +kernel) (by decide +kernel)), (ktb1 10 (by decide +kernel) (by decide +kernel)), ⟨_, _, rfl⟩, ⟨by decide +kernel, by decide +kernel⟩, by decide +kernel⟩
set_option maxRecDepth 20000 in
theorem mv_Fan_addArc : kMv yX1_addArc cX1_addArc 5 none 1 2 := ⟨(ktb4 36 (by decide +kernel) (by decide +kernel)), (ktb4 34 (by decide +kernel) (by decide +kernel)), (ktb4 35 (by decide +kernel) (by decide +kernel)), (ktb1 3 (by decide +kernel) (by decide +kernel)), ⟨_, _, rfl⟩, ⟨by decide +kernel, by decide +kernel⟩, by decide +kernel⟩
set_option maxRecDepth 20000 in
theorem mv_Fan_addNode : kMv yX1_addNode cX1_addNode 1 none 1 0 := ⟨(ktb3 208 (by decide +kernel) (by decide +kernel)), (ktb3 206 (by decide +kernel) (by decide +kernel)), (ktb3 207 (by decide +kernel) (by decide +kernel)), (ktb1 3 (by decide +kernel) (by decide +kernel)), ⟨_, _, rfl⟩, ⟨by decide +kernel, by decide +kernel⟩, by decide +kernel⟩
set_option maxRecDepth 20000 in
theorem mv_Fan_empty : kMv yX1_empty cX1_empty 1 none 1 0 := ⟨(ktb3 112 (by decide +kernel) (by decide +kernel)), (ktb3 110 (by decide +kernel) (by decide +kernel)), (ktb3 111 (by decide +kernel) (by decide +kernel)), (ktb1 3 (by decide +kernel) (by decide +kernel)), ⟨_, _, rfl⟩, ⟨by decide +kernel, by decide +kernel⟩, by decide +kernel⟩
set_option maxRecDepth 20000 in
theorem mv_Fan_removeArc : kMv yX1_removeArc cX1_removeArc 4 none 1 2 := ⟨(ktb4 133 (by decide +kernel) (by decide +kernel)), (ktb4 131 (by decide +kernel) (by decide +kernel)), (ktb4 132 (by decide +kernel) (by decide +kernel)), (ktb1 3 (by decide +kernel) (by decide +kernel)), ⟨_, _, rfl⟩, ⟨by decide +kernel, by decide +kernel⟩, by decide +kernel⟩
set_option maxRecDepth 20000 in
theorem mv_Joiner_begin : kMv yX2_begin cX2_begin 3 none 2 1 := ⟨(ktb3 38 (by decide +kernel) (by decide +kernel)), (ktb3 36 (by decide +kernel) (by decide +kernel)), (ktb3 37 (by decide +kernel) (by decide +kernel)), (ktb1 11 (by decide +kernel) (by decide +kernel)), ⟨_, _, rfl⟩, ⟨by decide +kernel, by decide +kernel⟩, by decide +kernel⟩
set_option maxRecDepth 20000 in
theorem mv_Joiner_hang : kMv yX2_hang cX2_hang 4 none 2 3 := ⟨(ktb3 57 (by decide +kernel) (by decide +kernel)), (ktb3 56 (by decide +kernel) (by decide +kernel)), (ktb0 10 (by decide +kernel) (by decide +kernel)), (ktb1 11 (by decide +kernel) (by decide +kernel)), ⟨_, _, rfl⟩, ⟨by decide +kernel, by decide +kernel⟩, by decide +kernel⟩
set_option maxRecDepth 20000 in
theorem mv_Joiner_headOf : kMv yX2_headOf cX2_headOf 4 (some .int) 2 1 := ⟨(ktb3 49 (by decide +kernel) (by decide +kernel)), (ktb3 48 (by decide +kernel) (by decide +kernel)), (ktb0 8 (by decide +kernel) (by decide +kernel)), (ktb1 11 (by decide +kernel) (by decide +kernel)), ⟨_, _, rfl⟩, ⟨by decide +kernel, by decide +kernel⟩, by decide +kernel⟩
set_option maxRecDepth 20000 in
theorem mv_Joiner_join : kMv yX2_join cX2_join 7 (some .boolean) 2 2 := ⟨(ktb3 45 (by decide +kernel) (by decide +kernel)), (ktb3 43 (by decide +kernel) (by decide +kernel)), (ktb3 44 (by decide +kernel) (by decide +kernel)), (ktb1 11 (by decide +kernel) (by decide +kernel)), ⟨_, _, rfl⟩, ⟨by decide +kernel, by decide +kernel⟩, by decide +kernel⟩
set_option maxRecDepth 20000 in
theorem mv_Joiner_sideOf : kMv yX2_sideOf cX2_sideOf 5 (some .int) 2 1 := ⟨(ktb3 53 (by decide +kernel) (by decide +kernel)), (ktb3 52 (by decide +kernel) (by decide +kernel)), (ktb0 9 (by decide +kernel) (by decide +kernel)), (ktb1 11 (by decide +kernel) (by decide +kernel)), ⟨_, _, rfl⟩, ⟨by decide +kernel, by decide +kernel⟩, by decide +kernel⟩
set_option maxRecDepth 20000 in
theorem mv_Joiner_together : kMv yX2_together cX2_together 3 (some .boolean) 2 2 := ⟨(ktb3 64 (by decide +kernel) (by decide +kernel)), (ktb3 62 (by decide +kernel) (by decide +kernel)), (ktb3 63 (by decide +kernel) (by decide +kernel)), (ktb1 11 (by decide +kernel) (by decide +kernel)), ⟨_, _, rfl⟩, ⟨by decide +kernel, by decide +kernel⟩, by decide +kernel⟩
set_option maxRecDepth 20000 in
theorem mv_KP_addArc : kMv yX11_addArc cX11_addArc 5 (some .int) 11 3 := ⟨(ktb4 28 (by decide +kernel) (by decide +kernel)), (ktb4 27 (by decide +kernel) (by decide +kernel)), (ktb0 19 (by decide +kernel) (by decide +kernel)), (ktb1 1 (by decide +kernel) (by decide +kernel)), ⟨_, _, rfl⟩, ⟨by decide +kernel, by decide +kernel⟩, by decide +kernel⟩
set_option maxRecDepth 20000 in
theorem mv_KP_addNode : kMv yX11_addNode cX11_addNode 3 (some .int) 11 1 := ⟨(ktb3 200 (by decide +kernel) (by decide +kernel)), (ktb3 199 (by decide +kernel) (by decide +kernel)), (ktb0 15 (by decide +kernel) (by decide +kernel)), (ktb1 1 (by decide +kernel) (by decide +kernel)), ⟨_, _, rfl⟩, ⟨by decide +kernel, by decide +kernel⟩, by decide +kernel⟩
set_option maxRecDepth 20000 in
theorem mv_KP_leaveOut : kMs yX11_leaveOut cX11_leaveOut 5 (some .int) 3 := ⟨(ktb4 129 (by decide +kernel) (by decide +kernel)), (ktb4 128 (by decide +kernel) (by decide +kernel)), (ktb1 1 (by decide +kernel) (by decide +kernel)), ⟨by decide +kernel, by decide +kernel⟩, by decide +kernel⟩
set_option maxRecDepth 20000 in
theorem mv_Md_becomeOrdered : kMv yX12_becomeOrdered cX12_becomeOrdered 7 none 12 1 := ⟨(ktb6 177 (by decide +kernel) (by decide +kernel)), (ktb6 176 (by decide +kernel) (by decide +kernel)), (ktb0 48 (by decide +kernel) (by decide +kernel)), (ktb1 14 (by decide +kernel) (by decide +kernel)), ⟨_, _, rfl⟩, ⟨by decide +kernel, by decide +kernel⟩, by decide +kernel⟩
set_option maxRecDepth 20000 in
theorem mv_Md_cores : kMv yX12_cores cX12_cores 5 none 12 0 := ⟨(ktb6 234 (by decide +kernel) (by decide +kernel)), (ktb6 233 (by decide +kernel) (by decide +kernel)), (ktb0 57 (by decide +kernel) (by decide +kernel)), (ktb1 14 (by decide +kernel) (by decide +kernel)), ⟨_, _, rfl⟩, ⟨by decide +kernel, by decide +kernel⟩, by decide +kernel⟩
set_option maxRecDepth 20000 in
theorem mv_Md_differ : kMv yX12_differ cX12_differ 3 (some .int) 12 0 := ⟨(ktb6 181 (by decide +kernel) (by decide +kernel)), (ktb6 180 (by decide +kernel) (by decide +kernel)), (ktb0 49 (by decide +kernel) (by decide +kernel)), (ktb1 14 (by decide +kernel) (by decide +kernel)), ⟨_, _, rfl⟩, ⟨by decide +kernel, by decide +kernel⟩, by decide +kernel⟩
set_option maxRecDepth 20000 in
theorem mv_Md_fail : kMv yX12_fail cX12_fail 2 (some .int) 12 1 := ⟨(ktb6 137 (by decide +kernel) (by decide +kernel)), (ktb6 136 (by decide +kernel) (by decide +kernel)), (ktb0 40 (by decide +kernel) (by decide +kernel)), (ktb1 14 (by decide +kernel) (by decide +kernel)), ⟨_, _, rfl⟩, ⟨by decide +kernel, by decide +kernel⟩, by decide +kernel⟩
set_option maxRecDepth 20000 in
theorem mv_Md_isArc : kMv yX12_isArc cX12_isArc 2 (some .boolean) 12 1 := ⟨(ktb6 190 (by decide +kernel) (by decide +kernel)), (ktb6 189 (by decide +kernel) (by decide +kernel)), (ktb0 50 (by decide +kernel) (by decide +kernel)), (ktb1 14 (by decide +kernel) (by decide +kernel)), ⟨_, _, rfl⟩, ⟨by decide +kernel, by decide +kernel⟩, by decide +kernel⟩
set_option maxRecDepth 20000 in
theorem mv_Md_isBridge : kMv yX12_isBridge cX12_isBridge 2 (some .boolean) 12 1 := ⟨(ktb7 10 (by decide +kernel) (by decide +kernel)), (ktb7 9 (by decide +kernel) (by decide +kernel)), (ktb0 60 (by decide +kernel) (by decide +kernel)), (ktb1 14 (by decide +kernel) (by decide +kernel)), ⟨_, _, rfl⟩, ⟨by decide +kernel, by decide +kernel⟩, by decide +kernel⟩
set_option maxRecDepth 20000 in
theorem mv_Md_isNode : kMv yX12_isNode cX12_isNode 2 (some .boolean) 12 1 := ⟨(ktb6 153 (by decide +kernel) (by decide +kernel)), (ktb6 152 (by decide +kernel) (by decide +kernel)), (ktb0 42 (by decide +kernel) (by decide +kernel)), (ktb1 14 (by decide +kernel) (by decide +kernel)), ⟨_, _, rfl⟩, ⟨by decide +kernel, by decide +kernel⟩, by decide +kernel⟩
set_option maxRecDepth 20000 in
theorem mv_Md_isOdd : kMv yX12_isOdd cX12_isOdd 2 (some .boolean) 12 1 := ⟨(ktb7 6 (by decide +kernel) (by decide +kernel)), (ktb7 5 (by decide +kernel) (by decide +kernel)), (ktb0 59 (by decide +kernel) (by decide +kernel)), (ktb1 14 (by decide +kernel) (by decide +kernel)), ⟨_, _, rfl⟩, ⟨by decide +kernel, by decide +kernel⟩, by decide +kernel⟩
set_option maxRecDepth 20000 in
theorem mv_Md_isTaken : kMv yX12_isTaken cX12_isTaken 4 (some .boolean) 12 2 := ⟨(ktb7 38 (by decide +kernel) (by decide +kernel)), (ktb7 37 (by decide +kernel) (by decide +kernel)), (ktb0 61 (by decide +kernel) (by decide +kernel)), (ktb1 14 (by decide +kernel) (by decide +kernel)), ⟨_, _, rfl⟩, ⟨by decide +kernel, by decide +kernel⟩, by decide +kernel⟩
set_option maxRecDepth 20000 in
theorem mv_Md_keepSet : kMv yX12_keepSet cX12_keepSet 2 none 12 0 := ⟨(ktb6 165 (by decide +kernel) (by decide +kernel)), (ktb6 164 (by decide +kernel) (by decide +kernel)), (ktb0 45 (by decide +kernel) (by decide +kernel)), (ktb1 14 (by decide +kernel) (by decide +kernel)), ⟨_, _, rfl⟩, ⟨by decide +kernel, by decide +kernel⟩, by decide +kernel⟩
set_option maxRecDepth 20000 in
theorem mv_Md_leastMet : kMv yX12_leastMet cX12_leastMet 3 (some .int) 12 0 := ⟨(ktb6 206 (by decide +kernel) (by decide +kernel)), (ktb6 205 (by decide +kernel) (by decide +kernel)), (ktb0 54 (by decide +kernel) (by decide +kernel)), (ktb1 14 (by decide +kernel) (by decide +kernel)), ⟨_, _, rfl⟩, ⟨by decide +kernel, by decide +kernel⟩, by decide +kernel⟩
set_option maxRecDepth 20000 in
theorem mv_Md_neighbours : kMv yX12_neighbours cX12_neighbours 4 none 12 0 := ⟨(ktb6 173 (by decide +kernel) (by decide +kernel)), (ktb6 172 (by decide +kernel) (by decide +kernel)), (ktb0 47 (by decide +kernel) (by decide +kernel)), (ktb1 14 (by decide +kernel) (by decide +kernel)), ⟨_, _, rfl⟩, ⟨by decide +kernel, by decide +kernel⟩, by decide +kernel⟩
set_option maxRecDepth 20000 in
theorem mv_Md_oddOf : kMv yX12_oddOf cX12_oddOf 4 (some .int) 12 1 := ⟨(ktb6 238 (by decide +kernel) (by decide +kernel)), (ktb6 237 (by decide +kernel) (by decide +kernel)), (ktb0 58 (by decide +kernel) (by decide +kernel)), (ktb1 14 (by decide +kernel) (by decide +kernel)), ⟨_, _, rfl⟩, ⟨by decide +kernel, by decide +kernel⟩, by decide +kernel⟩
set_option maxRecDepth 20000 in
theorem mv_Md_ofArcs : kMv yX12_ofArcs cX12_ofArcs 6 (some .int) 12 1 := ⟨(ktb7 66 (by decide +kernel) (by decide +kernel)), (ktb7 65 (by decide +kernel) (by decide +kernel)), (ktb0 64 (by decide +kernel) (by decide +kernel)), (ktb1 14 (by decide +kernel) (by decide +kernel)), ⟨_, _, rfl⟩, ⟨by decide +kernel, by decide +kernel⟩, by decide +kernel⟩
set_option maxRecDepth 20000 in
theorem mv_Md_one : kMv yX12_one cX12_one 2 (some .int) 12 1 := ⟨(ktb6 141 (by decide +kernel) (by decide +kernel)), (ktb6 140 (by decide +kernel) (by decide +kernel)), (ktb0 41 (by decide +kernel) (by decide +kernel)), (ktb1 14 (by decide +kernel) (by decide +kernel)), ⟨_, _, rfl⟩, ⟨by decide +kernel, by decide +kernel⟩, by decide +kernel⟩
set_option maxRecDepth 20000 in
theorem mv_Md_other : kMv yX12_other cX12_other 2 (some .int) 12 1 := ⟨(ktb6 222 (by decide +kernel) (by decide +kernel)), (ktb6 221 (by decide +kernel) (by decide +kernel)), (ktb0 55 (by decide +kernel) (by decide +kernel)), (ktb1 14 (by decide +kernel) (by decide +kernel)), ⟨_, _, rfl⟩, ⟨by decide +kernel, by decide +kernel⟩, by decide +kernel⟩
set_option maxRecDepth 20000 in
theorem mv_Md_partOf : kMv yX12_partOf cX12_partOf 2 (some .int) 12 1 := ⟨(ktb6 202 (by decide +kernel) (by decide +kernel)), (ktb6 201 (by decide +kernel) (by decide +kernel)), (ktb0 53 (by decide +kernel) (by decide +kernel)), (ktb1 14 (by decide +kernel) (by decide +kernel)), ⟨_, _, rfl⟩, ⟨by decide +kernel, by decide +kernel⟩, by decide +kernel⟩
set_option maxRecDepth 20000 in
theorem mv_Md_partsNow : kMv yX12_partsNow cX12_partsNow 3 (some .int) 12 0 := ⟨(ktb6 198 (by decide +kernel) (by decide +kernel)), (ktb6 197 (by decide +kernel) (by decide +kernel)), (ktb0 52 (by decide +kernel) (by decide +kernel)), (ktb1 14 (by decide +kernel) (by decide +kernel)), ⟨_, _, rfl⟩, ⟨by decide +kernel, by decide +kernel⟩, by decide +kernel⟩
set_option maxRecDepth 20000 in
theorem mv_Md_plan : kMv yX12_plan cX12_plan 3 none 12 1 := ⟨(ktb7 46 (by decide +kernel) (by decide +kernel)), (ktb7 45 (by decide +kernel) (by decide +kernel)), (ktb0 62 (by decide +kernel) (by decide +kernel)), (ktb1 14 (by decide +kernel) (by decide +kernel)), ⟨_, _, rfl⟩, ⟨by decide +kernel, by decide +kernel⟩, by decide +kernel⟩
set_option maxRecDepth 20000 in
theorem mv_Md_put : kMv yX12_put cX12_put 6 (some .int) 12 2 := ⟨(ktb6 149 (by decide +kernel) (by decide +kernel)), (ktb6 147 (by decide +kernel) (by decide +kernel)), (ktb6 148 (by decide +kernel) (by decide +kernel)), (ktb1 14 (by decide +kernel) (by decide +kernel)), ⟨_, _, rfl⟩, ⟨by decide +kernel, by decide +kernel⟩, by decide +kernel⟩
set_option maxRecDepth 20000 in
theorem mv_Md_replace : kMv yX12_replace cX12_replace 7 none 12 1 := ⟨(ktb6 194 (by decide +kernel) (by decide +kernel)), (ktb6 193 (by decide +kernel) (by decide +kernel)), (ktb0 51 (by decide +kernel) (by decide +kernel)), (ktb1 14 (by decide +kernel) (by decide +kernel)), ⟨_, _, rfl⟩, ⟨by decide +kernel, by decide +kernel⟩, by decide +kernel⟩
set_option maxRecDepth 20000 in
theorem mv_Md_spread : kMv yX12_spread cX12_spread 6 none 12 1 := ⟨(ktb7 50 (by decide +kernel) (by decide +kernel)), (ktb7 49 (by decide +kernel) (by decide +kernel)), (ktb0 63 (by decide +kernel) (by decide +kernel)), (ktb1 14 (by decide +kernel) (by decide +kernel)), ⟨_, _, rfl⟩, ⟨by decide +kernel, by decide +kernel⟩, by decide +kernel⟩
set_option maxRecDepth 20000 in
theorem mv_Md_strongOf : kMv yX12_strongOf cX12_strongOf 3 (some .int) 12 1 := ⟨(ktb6 230 (by decide +kernel) (by decide +kernel)), (ktb6 229 (by decide +kernel) (by decide +kernel)), (ktb0 56 (by decide +kernel) (by decide +kernel)), (ktb1 14 (by decide +kernel) (by decide +kernel)), ⟨_, _, rfl⟩, ⟨by decide +kernel, by decide +kernel⟩, by decide +kernel⟩
set_option maxRecDepth 20000 in
theorem mv_Md_tellRing : kMv yX12_tellRing cX12_tellRing 7 none 12 2 := ⟨(ktb6 161 (by decide +kernel) (by decide +kernel)), (ktb6 160 (by decide +kernel) (by decide +kernel)), (ktb0 44 (by decide +kernel) (by decide +kernel)), (ktb1 14 (by decide +kernel) (by decide +kernel)), ⟨_, _, rfl⟩, ⟨by decide +kernel, by decide +kernel⟩, by decide +kernel⟩
set_option maxRecDepth 20000 in
theorem mv_Md_theSet : kMv yX12_theSet cX12_theSet 4 none 12 0 := ⟨(ktb6 169 (by decide +kernel) (by decide +kernel)), (ktb6 168 (by decide +kernel) (by decide +kernel)), (ktb0 46 (by decide +kernel) (by decide +kernel)), (ktb1 14 (by decide +kernel) (by decide +kernel)), ⟨_, _, rfl⟩, ⟨by decide +kernel, by decide +kernel⟩, by decide +kernel⟩
set_option maxRecDepth 20000 in
theorem mv_Md_told : kMv yX12_told cX12_told 4 (some .int) 12 1 := ⟨(ktb7 62 (by decide +kernel) (by decide +kernel)), (ktb7 60 (by decide +kernel) (by decide +kernel)), (ktb7 61 (by decide +kernel) (by decide +kernel)), (ktb1 14 (by decide +kernel) (by decide +kernel)), ⟨_, _, rfl⟩, ⟨by decide +kernel, by decide +kernel⟩, by decide +kernel⟩
set_option maxRecDepth 20000 in
theorem mv_Md_walk : kMv yX12_walk cX12_walk 9 none 12 4 := ⟨(ktb6 157 (by decide +kernel) (by decide +kernel)), (ktb6 156 (by decide +kernel) (by decide +kernel)), (ktb0 43 (by decide +kernel) (by decide +kernel)), (ktb1 14 (by decide +kernel) (by decide +kernel)), ⟨_, _, rfl⟩, ⟨by decide +kernel, by decide +kernel⟩, by decide +kernel⟩
set_option maxRecDepth 20000 in
theorem mv_OddArcs_climb : kMv yX3_climb cX3_climb 5 (some .int) 3 2 := ⟨(ktb5 75 (by decide +kernel) (by decide +kernel)), (ktb5 74 (by decide +kernel) (by decide +kernel)), (ktb0 38 (by decide +kernel) (by decide +kernel)), (ktb1 5 (by decide +kernel) (by decide +kernel)), ⟨_, _, rfl⟩, ⟨by decide +kernel, by decide +kernel⟩, by decide +kernel⟩
set_option maxRecDepth 20000 in
theorem mv_OddArcs_evenParts : kMv yX3_evenParts cX3_evenParts 5 (some .int) 3 0 := ⟨(ktb5 182 (by decide +kernel) (by decide +kernel)), (ktb5 180 (by decide +kernel) (by decide +kernel)), (ktb5 181 (by decide +kernel) (by decide +kernel)), (ktb1 5 (by decide +kernel) (by decide +kernel)), ⟨_, _, rfl⟩, ⟨by decide +kernel, by decide +kernel⟩, by decide +kernel⟩
set_option maxRecDepth 20000 in
theorem mv_OddArcs_has : kMv yX3_has cX3_has 3 (some .boolean) 3 1 := ⟨(ktb5 27 (by decide +kernel) (by decide +kernel)), (ktb5 25 (by decide +kernel) (by decide +kernel)), (ktb5 26 (by decide +kernel) (by decide +kernel)), (ktb1 5 (by decide +kernel) (by decide +kernel)), ⟨_, _, rfl⟩, ⟨by decide +kernel, by decide +kernel⟩, by decide +kernel⟩
set_option maxRecDepth 20000 in
theorem mv_OddArcs_leastIn : kMv yX3_leastIn cX3_leastIn 4 (some .int) 3 1 := ⟨(ktb5 23 (by decide +kernel) (by decide +kernel)), (ktb5 21 (by decide +kernel) (by decide +kernel)), (ktb5 22 (by decide +kernel) (by decide +kernel)), (ktb1 5 (by decide +kernel) (by decide +kernel)), ⟨_, _, rfl⟩, ⟨by decide +kernel, by decide +kernel⟩, by decide +kernel⟩
set_option maxRecDepth 20000 in
theorem mv_OddArcs_meeting : kMv yX3_meeting cX3_meeting 6 (some .int) 3 2 := ⟨(ktb5 71 (by decide +kernel) (by decide +kernel)), (ktb5 70 (by decide +kernel) (by decide +kernel)), (ktb0 37 (by decide +kernel) (by decide +kernel)), (ktb1 5 (by decide +kernel) (by decide +kernel)), ⟨_, _, rfl⟩, ⟨by decide +kernel, by decide +kernel⟩, by decide +kernel⟩
set_option maxRecDepth 20000 in
theorem mv_OddArcs_ringArc : kMv yX3_ringArc cX3_ringArc 9 (some .int) 3 2 := ⟨(ktb5 66 (by decide +kernel) (by decide +kernel)), (ktb5 64 (by decide +kernel) (by decide +kernel)), (ktb5 65 (by decide +kernel) (by decide +kernel)), (ktb1 5 (by decide +kernel) (by decide +kernel)), ⟨_, _, rfl⟩, ⟨by decide +kernel, by decide +kernel⟩, by decide +kernel⟩
set_option maxRecDepth 20000 in
theorem mv_Plan_addPut : kMv yX4_addPut cX4_addPut 4 (some .int) 4 2 := ⟨(ktb5 103 (by decide +kernel) (by decide +kernel)), (ktb5 101 (by decide +kernel) (by decide +kernel)), (ktb5 102 (by decide +kernel) (by decide +kernel)), (ktb1 12 (by decide +kernel) (by decide +kernel)), ⟨_, _, rfl⟩, ⟨by decide +kernel, by decide +kernel⟩, by decide +kernel⟩
set_option maxRecDepth 20000 in
theorem mv_Plan_addTake : kMv yX4_addTake cX4_addTake 3 (some .int) 4 1 := ⟨(ktb5 140 (by decide +kernel) (by decide +kernel)), (ktb5 138 (by decide +kernel) (by decide +kernel)), (ktb5 139 (by decide +kernel) (by decide +kernel)), (ktb1 12 (by decide +kernel) (by decide +kernel)), ⟨_, _, rfl⟩, ⟨by decide +kernel, by decide +kernel⟩, by decide +kernel⟩
set_option maxRecDepth 20000 in
theorem mv_Plan_arcsBehind : kMv yX4_arcsBehind cX4_arcsBehind 4 (some .int) 4 1 := ⟨(ktb5 162 (by decide +kernel) (by decide +kernel)), (ktb5 160 (by decide +kernel) (by decide +kernel)), (ktb5 161 (by decide +kernel) (by decide +kernel)), (ktb1 12 (by decide +kernel) (by decide +kernel)), ⟨_, _, rfl⟩, ⟨by decide +kernel, by decide +kernel⟩, by decide +kernel⟩
set_option maxRecDepth 20000 in
theorem mv_Plan_behind : kMv yX4_behind cX4_behind 4 (some (.object "KeptParts$Joiner")) 4 1 := ⟨(ktb5 152 (by decide +kernel) (by decide +kernel)), (ktb5 150 (by decide +kernel) (by decide +kernel)), (ktb5 151 (by decide +kernel) (by decide +kernel)), (ktb1 12 (by decide +kernel) (by decide +kernel)), ⟨_, _, rfl⟩, ⟨by decide +kernel, by decide +kernel⟩, by decide +kernel⟩
set_option maxRecDepth 20000 in
theorem mv_Plan_forget : kMv yX4_forget cX4_forget 3 (some .int) 4 0 := ⟨(ktb3 22 (by decide +kernel) (by decide +kernel)), (ktb3 20 (by decide +kernel) (by decide +kernel)), (ktb3 21 (by decide +kernel) (by decide +kernel)), (ktb1 12 (by decide +kernel) (by decide +kernel)), ⟨_, _, rfl⟩, ⟨by decide +kernel, by decide +kernel⟩, by decide +kernel⟩
set_option maxRecDepth 20000 in
theorem mv_Plan_isFull : kMv yX4_isFull cX4_isFull 1 (some .boolean) 4 0 := ⟨(ktb5 98 (by decide +kernel) (by decide +kernel)), (ktb5 96 (by decide +kernel) (by decide +kernel)), (ktb5 97 (by decide +kernel) (by decide +kernel)), (ktb1 12 (by decide +kernel) (by decide +kernel)), ⟨_, _, rfl⟩, ⟨by decide +kernel, by decide +kernel⟩, by decide +kernel⟩
set_option maxRecDepth 20000 in
theorem mv_Plan_isLeft : kMv yX4_isLeft cX4_isLeft 3 (some .boolean) 4 2 := ⟨(ktb5 157 (by decide +kernel) (by decide +kernel)), (ktb5 156 (by decide +kernel) (by decide +kernel)), (ktb0 39 (by decide +kernel) (by decide +kernel)), (ktb1 12 (by decide +kernel) (by decide +kernel)), ⟨_, _, rfl⟩, ⟨by decide +kernel, by decide +kernel⟩, by decide +kernel⟩
set_option maxRecDepth 20000 in
theorem mv_Plan_puts : kMv yX4_puts cX4_puts 2 (some .boolean) 4 1 := ⟨(ktb5 115 (by decide +kernel) (by decide +kernel)), (ktb5 113 (by decide +kernel) (by decide +kernel)), (ktb5 114 (by decide +kernel) (by decide +kernel)), (ktb1 12 (by decide +kernel) (by decide +kernel)), ⟨_, _, rfl⟩, ⟨by decide +kernel, by decide +kernel⟩, by decide +kernel⟩
set_option maxRecDepth 20000 in
theorem mv_Plan_setTaker : kMv yX4_setTaker cX4_setTaker 3 none 4 2 := ⟨(ktb3 26 (by decide +kernel) (by decide +kernel)), (ktb3 25 (by decide +kernel) (by decide +kernel)), (ktb0 7 (by decide +kernel) (by decide +kernel)), (ktb1 12 (by decide +kernel) (by decide +kernel)), ⟨_, _, rfl⟩, ⟨by decide +kernel, by decide +kernel⟩, by decide +kernel⟩
set_option maxRecDepth 20000 in
theorem mv_Plan_takes : kMv yX4_takes cX4_takes 2 (some .boolean) 4 1 := ⟨(ktb5 120 (by decide +kernel) (by decide +kernel)), (ktb5 118 (by decide +kernel) (by decide +kernel)), (ktb5 119 (by decide +kernel) (by decide +kernel)), (ktb1 12 (by decide +kernel) (by decide +kernel)), ⟨_, _, rfl⟩, ⟨by decide +kernel, by decide +kernel⟩, by decide +kernel⟩
set_option maxRecDepth 20000 in
theorem mv_Row_arcAdded : kMv yX5_arcAdded cX5_arcAdded 3 none 5 2 := ⟨(ktb4 48 (by decide +kernel) (by decide +kernel)), (ktb4 46 (by decide +kernel) (by decide +kernel)), (ktb4 47 (by decide +kernel) (by decide +kernel)), (ktb1 7 (by decide +kernel) (by decide +kernel)), ⟨_, _, rfl⟩, ⟨by decide +kernel, by decide +kernel⟩, by decide +kernel⟩
set_option maxRecDepth 20000 in
theorem mv_Row_arcRemoved : kMv yX5_arcRemoved cX5_arcRemoved 6 none 5 1 := ⟨(ktb4 163 (by decide +kernel) (by decide +kernel)), (ktb4 161 (by decide +kernel) (by decide +kernel)), (ktb4 162 (by decide +kernel) (by decide +kernel)), (ktb1 7 (by decide +kernel) (by decide +kernel)), ⟨_, _, rfl⟩, ⟨by decide +kernel, by decide +kernel⟩, by decide +kernel⟩
set_option maxRecDepth 20000 in
theorem mv_Row_empty : kMv yX5_empty cX5_empty 1 none 5 0 := ⟨(ktb3 116 (by decide +kernel) (by decide +kernel)), (ktb3 114 (by decide +kernel) (by decide +kernel)), (ktb3 115 (by decide +kernel) (by decide +kernel)), (ktb1 7 (by decide +kernel) (by decide +kernel)), ⟨_, _, rfl⟩, ⟨by decide +kernel, by decide +kernel⟩, by decide +kernel⟩
set_option maxRecDepth 20000 in
theorem mv_Row_holds : kMv yX5_holds cX5_holds 3 (some .boolean) 5 0 := ⟨(ktb3 81 (by decide +kernel) (by decide +kernel)), (ktb3 79 (by decide +kernel) (by decide +kernel)), (ktb3 80 (by decide +kernel) (by decide +kernel)), (ktb1 7 (by decide +kernel) (by decide +kernel)), ⟨_, _, rfl⟩, ⟨by decide +kernel, by decide +kernel⟩, by decide +kernel⟩
set_option maxRecDepth 20000 in
theorem mv_Row_looseArcs : kMv yX5_looseArcs cX5_looseArcs 3 (some .int) 5 0 := ⟨(ktb5 196 (by decide +kernel) (by decide +kernel)), (ktb5 194 (by decide +kernel) (by decide +kernel)), (ktb5 195 (by decide +kernel) (by decide +kernel)), (ktb1 7 (by decide +kernel) (by decide +kernel)), ⟨_, _, rfl⟩, ⟨by decide +kernel, by decide +kernel⟩, by decide +kernel⟩
set_option maxRecDepth 20000 in
theorem mv_Row_nextOnRing : kMv yX5_nextOnRing cX5_nextOnRing 6 (some .int) 5 2 := ⟨(ktb4 110 (by decide +kernel) (by decide +kernel)), (ktb4 109 (by decide +kernel) (by decide +kernel)), (ktb0 25 (by decide +kernel) (by decide +kernel)), (ktb1 7 (by decide +kernel) (by decide +kernel)), ⟨_, _, rfl⟩, ⟨by decide +kernel, by decide +kernel⟩, by decide +kernel⟩
set_option maxRecDepth 20000 in
theorem mv_Row_nodeAdded : kMv yX5_nodeAdded cX5_nodeAdded 2 none 5 1 := ⟨(ktb3 227 (by decide +kernel) (by decide +kernel)), (ktb3 225 (by decide +kernel) (by decide +kernel)), (ktb3 226 (by decide +kernel) (by decide +kernel)), (ktb1 7 (by decide +kernel) (by decide +kernel)), ⟨_, _, rfl⟩, ⟨by decide +kernel, by decide +kernel⟩, by decide +kernel⟩
set_option maxRecDepth 20000 in
theorem mv_Row_nodeAt : kMv yX5_nodeAt cX5_nodeAt 2 (some .int) 5 1 := ⟨(ktb5 54 (by decide +kernel) (by decide +kernel)), (ktb5 52 (by decide +kernel) (by decide +kernel)), (ktb5 53 (by decide +kernel) (by decide +kernel)), (ktb1 7 (by decide +kernel) (by decide +kernel)), ⟨_, _, rfl⟩, ⟨by decide +kernel, by decide +kernel⟩, by decide +kernel⟩
set_option maxRecDepth 20000 in
theorem mv_Row_pick : kMv yX5_pick cX5_pick 7 (some .int) 5 4 := ⟨(ktb4 61 (by decide +kernel) (by decide +kernel)), (ktb4 60 (by decide +kernel) (by decide +kernel)), (ktb0 22 (by decide +kernel) (by decide +kernel)), (ktb1 7 (by decide +kernel) (by decide +kernel)), ⟨_, _, rfl⟩, ⟨by decide +kernel, by decide +kernel⟩, by decide +kernel⟩
set_option maxRecDepth 20000 in
theorem mv_Row_placeOf : kMv yX5_placeOf cX5_placeOf 2 (some .int) 5 1 := ⟨(ktb5 7 (by decide +kernel) (by decide +kernel)), (ktb5 5 (by decide +kernel) (by decide +kernel)), (ktb5 6 (by decide +kernel) (by decide +kernel)), (ktb1 7 (by decide +kernel) (by decide +kernel)), ⟨_, _, rfl⟩, ⟨by decide +kernel, by decide +kernel⟩, by decide +kernel⟩
set_option maxRecDepth 20000 in
theorem mv_Row_reaches : kMv yX5_reaches cX5_reaches 3 (some .boolean) 5 2 := ⟨(ktb4 106 (by decide +kernel) (by decide +kernel)), (ktb4 105 (by decide +kernel) (by decide +kernel)), (ktb0 24 (by decide +kernel) (by decide +kernel)), (ktb1 7 (by decide +kernel) (by decide +kernel)), ⟨_, _, rfl⟩, ⟨by decide +kernel, by decide +kernel⟩, by decide +kernel⟩
set_option maxRecDepth 20000 in
theorem mv_Row_ringArc : kMv yX5_ringArc cX5_ringArc 2 (some .int) 5 1 := ⟨(ktb5 87 (by decide +kernel) (by decide +kernel)), (ktb5 85 (by decide +kernel) (by decide +kernel)), (ktb5 86 (by decide +kernel) (by decide +kernel)), (ktb1 7 (by decide +kernel) (by decide +kernel)), ⟨_, _, rfl⟩, ⟨by decide +kernel, by decide +kernel⟩, by decide +kernel⟩
set_option maxRecDepth 20000 in
theorem mv_Row_setRight : kMv yX5_setRight cX5_setRight 9 none 5 2 := ⟨(ktb4 52 (by decide +kernel) (by decide +kernel)), (ktb4 51 (by decide +kernel) (by decide +kernel)), (ktb0 20 (by decide +kernel) (by decide +kernel)), (ktb1 7 (by decide +kernel) (by decide +kernel)), ⟨_, _, rfl⟩, ⟨by decide +kernel, by decide +kernel⟩, by decide +kernel⟩
set_option maxRecDepth 20000 in
theorem mv_Row_spread : kMv yX5_spread cX5_spread 11 none 5 4 := ⟨(ktb4 56 (by decide +kernel) (by decide +kernel)), (ktb4 55 (by decide +kernel) (by decide +kernel)), (ktb0 21 (by decide +kernel) (by decide +kernel)), (ktb1 7 (by decide +kernel) (by decide +kernel)), ⟨_, _, rfl⟩, ⟨by decide +kernel, by decide +kernel⟩, by decide +kernel⟩
set_option maxRecDepth 20000 in
theorem mv_Row_tellRing : kMv yX5_tellRing cX5_tellRing 6 (some .boolean) 5 2 := ⟨(ktb4 102 (by decide +kernel) (by decide +kernel)), (ktb4 100 (by decide +kernel) (by decide +kernel)), (ktb4 101 (by decide +kernel) (by decide +kernel)), (ktb1 7 (by decide +kernel) (by decide +kernel)), ⟨_, _, rfl⟩, ⟨by decide +kernel, by decide +kernel⟩, by decide +kernel⟩
set_option maxRecDepth 20000 in
theorem mv_Sides_coreOf : kMv yX6_coreOf cX6_coreOf 2 (some .int) 6 1 := ⟨(ktb5 11 (by decide +kernel) (by decide +kernel)), (ktb5 9 (by decide +kernel) (by decide +kernel)), (ktb5 10 (by decide +kernel) (by decide +kernel)), (ktb1 9 (by decide +kernel) (by decide +kernel)), ⟨_, _, rfl⟩, ⟨by decide +kernel, by decide +kernel⟩, by decide +kernel⟩
set_option maxRecDepth 20000 in
theorem mv_Sides_countOf : kMv yX6_countOf cX6_countOf 2 (some .int) 6 1 := ⟨(ktb5 19 (by decide +kernel) (by decide +kernel)), (ktb5 17 (by decide +kernel) (by decide +kernel)), (ktb5 18 (by decide +kernel) (by decide +kernel)), (ktb1 9 (by decide +kernel) (by decide +kernel)), ⟨_, _, rfl⟩, ⟨by decide +kernel, by decide +kernel⟩, by decide +kernel⟩
set_option maxRecDepth 20000 in
theorem mv_Sides_countThrees : kMv yX6_countThrees cX6_countThrees 5 (some .long) 6 0 := ⟨(ktb3 10 (by decide +kernel) (by decide +kernel)), (ktb3 9 (by decide +kernel) (by decide +kernel)), (ktb0 5 (by decide +kernel) (by decide +kernel)), (ktb1 9 (by decide +kernel) (by decide +kernel)), ⟨_, _, rfl⟩, ⟨by decide +kernel, by decide +kernel⟩, by decide +kernel⟩
set_option maxRecDepth 20000 in
theorem mv_Sides_countedThrees : kMv yX6_countedThrees cX6_countedThrees 1 (some .long) 6 0 := ⟨(ktb2 213 (by decide +kernel) (by decide +kernel)), (ktb2 211 (by decide +kernel) (by decide +kernel)), (ktb2 212 (by decide +kernel) (by decide +kernel)), (ktb1 9 (by decide +kernel) (by decide +kernel)), ⟨_, _, rfl⟩, ⟨by decide +kernel, by decide +kernel⟩, by decide +kernel⟩
set_option maxRecDepth 20000 in
theorem mv_Sides_findCores : kMv yX6_findCores cX6_findCores 3 none 6 0 := ⟨(ktb3 2 (by decide +kernel) (by decide +kernel)), (ktb3 1 (by decide +kernel) (by decide +kernel)), (ktb0 3 (by decide +kernel) (by decide +kernel)), (ktb1 9 (by decide +kernel) (by decide +kernel)), ⟨_, _, rfl⟩, ⟨by decide +kernel, by decide +kernel⟩, by decide +kernel⟩
set_option maxRecDepth 20000 in
theorem mv_Sides_findNear : kMv yX6_findNear cX6_findNear 6 none 6 0 := ⟨(ktb2 225 (by decide +kernel) (by decide +kernel)), (ktb2 224 (by decide +kernel) (by decide +kernel)), (ktb0 2 (by decide +kernel) (by decide +kernel)), (ktb1 9 (by decide +kernel) (by decide +kernel)), ⟨_, _, rfl⟩, ⟨by decide +kernel, by decide +kernel⟩, by decide +kernel⟩
set_option maxRecDepth 20000 in
theorem mv_Sides_greatestCore : kMv yX6_greatestCore cX6_greatestCore 3 (some .int) 6 0 := ⟨(ktb5 204 (by decide +kernel) (by decide +kernel)), (ktb5 202 (by decide +kernel) (by decide +kernel)), (ktb5 203 (by decide +kernel) (by decide +kernel)), (ktb1 9 (by decide +kernel) (by decide +kernel)), ⟨_, _, rfl⟩, ⟨by decide +kernel, by decide +kernel⟩, by decide +kernel⟩
set_option maxRecDepth 20000 in
theorem mv_Sides_holds : kMv yX6_holds cX6_holds 3 (some .boolean) 6 1 := ⟨(ktb3 85 (by decide +kernel) (by decide +kernel)), (ktb3 83 (by decide +kernel) (by decide +kernel)), (ktb3 84 (by decide +kernel) (by decide +kernel)), (ktb1 9 (by decide +kernel) (by decide +kernel)), ⟨_, _, rfl⟩, ⟨by decide +kernel, by decide +kernel⟩, by decide +kernel⟩
set_option maxRecDepth 20000 in
theorem mv_Sides_look : kMv yX6_look cX6_look 1 none 6 0 := ⟨(ktb2 217 (by decide +kernel) (by decide +kernel)), (ktb2 216 (by decide +kernel) (by decide +kernel)), (ktb0 0 (by decide +kernel) (by decide +kernel)), (ktb1 9 (by decide +kernel) (by decide +kernel)), ⟨_, _, rfl⟩, ⟨by decide +kernel, by decide +kernel⟩, by decide +kernel⟩
set_option maxRecDepth 20000 in
theorem mv_Sides_markedBehind : kMv yX6_markedBehind cX6_markedBehind 5 (some .int) 6 2 := ⟨(ktb3 14 (by decide +kernel) (by decide +kernel)), (ktb3 13 (by decide +kernel) (by decide +kernel)), (ktb0 6 (by decide +kernel) (by decide +kernel)), (ktb1 9 (by decide +kernel) (by decide +kernel)), ⟨_, _, rfl⟩, ⟨by decide +kernel, by decide +kernel⟩, by decide +kernel⟩
set_option maxRecDepth 20000 in
theorem mv_Sides_peel : kMv yX6_peel cX6_peel 7 (some .int) 6 1 := ⟨(ktb3 6 (by decide +kernel) (by decide +kernel)), (ktb3 5 (by decide +kernel) (by decide +kernel)), (ktb0 4 (by decide +kernel) (by decide +kernel)), (ktb1 9 (by decide +kernel) (by decide +kernel)), ⟨_, _, rfl⟩, ⟨by decide +kernel, by decide +kernel⟩, by decide +kernel⟩
set_option maxRecDepth 20000 in
theorem mv_Sides_renew : kMv yX6_renew cX6_renew 1 none 6 0 := ⟨(ktb2 221 (by decide +kernel) (by decide +kernel)), (ktb2 220 (by decide +kernel) (by decide +kernel)), (ktb0 1 (by decide +kernel) (by decide +kernel)), (ktb1 9 (by decide +kernel) (by decide +kernel)), ⟨_, _, rfl⟩, ⟨by decide +kernel, by decide +kernel⟩, by decide +kernel⟩
set_option maxRecDepth 20000 in
theorem mv_Strong_collect : kMv yX7_collect cX7_collect 9 none 7 1 := ⟨(ktb5 2 (by decide +kernel) (by decide +kernel)), (ktb5 1 (by decide +kernel) (by decide +kernel)), (ktb0 36 (by decide +kernel) (by decide +kernel)), (ktb1 8 (by decide +kernel) (by decide +kernel)), ⟨_, _, rfl⟩, ⟨by decide +kernel, by decide +kernel⟩, by decide +kernel⟩
set_option maxRecDepth 20000 in
theorem mv_Strong_leastOf : kMv yX7_leastOf cX7_leastOf 2 (some .int) 7 1 := ⟨(ktb4 229 (by decide +kernel) (by decide +kernel)), (ktb4 227 (by decide +kernel) (by decide +kernel)), (ktb4 228 (by decide +kernel) (by decide +kernel)), (ktb1 8 (by decide +kernel) (by decide +kernel)), ⟨_, _, rfl⟩, ⟨by decide +kernel, by decide +kernel⟩, by decide +kernel⟩
set_option maxRecDepth 20000 in
theorem mv_Strong_leave : kMv yX7_leave cX7_leave 7 none 7 1 := ⟨(ktb4 238 (by decide +kernel) (by decide +kernel)), (ktb4 237 (by decide +kernel) (by decide +kernel)), (ktb0 35 (by decide +kernel) (by decide +kernel)), (ktb1 8 (by decide +kernel) (by decide +kernel)), ⟨_, _, rfl⟩, ⟨by decide +kernel, by decide +kernel⟩, by decide +kernel⟩
set_option maxRecDepth 20000 in
theorem mv_Strong_look : kMv yX7_look cX7_look 2 none 7 0 := ⟨(ktb4 233 (by decide +kernel) (by decide +kernel)), (ktb4 232 (by decide +kernel) (by decide +kernel)), (ktb0 34 (by decide +kernel) (by decide +kernel)), (ktb1 8 (by decide +kernel) (by decide +kernel)), ⟨_, _, rfl⟩, ⟨by decide +kernel, by decide +kernel⟩, by decide +kernel⟩
set_option maxRecDepth 20000 in
theorem mv_Strong_parts : kMv yX7_parts cX7_parts 3 (some .int) 7 0 := ⟨(ktb5 192 (by decide +kernel) (by decide +kernel)), (ktb5 190 (by decide +kernel) (by decide +kernel)), (ktb5 191 (by decide +kernel) (by decide +kernel)), (ktb1 8 (by decide +kernel) (by decide +kernel)), ⟨_, _, rfl⟩, ⟨by decide +kernel, by decide +kernel⟩, by decide +kernel⟩
set_option maxRecDepth 20000 in
theorem mv_Trees_arcAdded : kMv yX8_arcAdded cX8_arcAdded 6 none 8 1 := ⟨(ktb4 40 (by decide +kernel) (by decide +kernel)), (ktb4 38 (by decide +kernel) (by decide +kernel)), (ktb4 39 (by decide +kernel) (by decide +kernel)), (ktb1 4 (by decide +kernel) (by decide +kernel)), ⟨_, _, rfl⟩, ⟨by decide +kernel, by decide +kernel⟩, by decide +kernel⟩
set_option maxRecDepth 20000 in
theorem mv_Trees_arcRemoved : kMv yX8_arcRemoved cX8_arcRemoved 2 none 8 1 := ⟨(ktb4 138 (by decide +kernel) (by decide +kernel)), (ktb4 136 (by decide +kernel) (by decide +kernel)), (ktb4 137 (by decide +kernel) (by decide +kernel)), (ktb1 4 (by decide +kernel) (by decide +kernel)), ⟨_, _, rfl⟩, ⟨by decide +kernel, by decide +kernel⟩, by decide +kernel⟩
set_option maxRecDepth 20000 in
theorem mv_Trees_gather : kMv yX8_gather cX8_gather 11 (some .int) 8 3 := ⟨(ktb4 147 (by decide +kernel) (by decide +kernel)), (ktb4 146 (by decide +kernel) (by decide +kernel)), (ktb0 27 (by decide +kernel) (by decide +kernel)), (ktb1 4 (by decide +kernel) (by decide +kernel)), ⟨_, _, rfl⟩, ⟨by decide +kernel, by decide +kernel⟩, by decide +kernel⟩
set_option maxRecDepth 20000 in
theorem mv_Trees_greatestLevel : kMv yX8_greatestLevel cX8_greatestLevel 3 (some .int) 8 0 := ⟨(ktb3 72 (by decide +kernel) (by decide +kernel)), (ktb3 70 (by decide +kernel) (by decide +kernel)), (ktb3 71 (by decide +kernel) (by decide +kernel)), (ktb1 4 (by decide +kernel) (by decide +kernel)), ⟨_, _, rfl⟩, ⟨by decide +kernel, by decide +kernel⟩, by decide +kernel⟩
set_option maxRecDepth 20000 in
theorem mv_Trees_greatestTree : kMv yX8_greatestTree cX8_greatestTree 5 (some .int) 8 2 := ⟨(ktb3 77 (by decide +kernel) (by decide +kernel)), (ktb3 76 (by decide +kernel) (by decide +kernel)), (ktb0 11 (by decide +kernel) (by decide +kernel)), (ktb1 4 (by decide +kernel) (by decide +kernel)), ⟨_, _, rfl⟩, ⟨by decide +kernel, by decide +kernel⟩, by decide +kernel⟩
set_option maxRecDepth 20000 in
theorem mv_Trees_hang : kMv yX8_hang cX8_hang 13 none 8 5 := ⟨(ktb3 216 (by decide +kernel) (by decide +kernel)), (ktb3 215 (by decide +kernel) (by decide +kernel)), (ktb0 16 (by decide +kernel) (by decide +kernel)), (ktb1 4 (by decide +kernel) (by decide +kernel)), ⟨_, _, rfl⟩, ⟨by decide +kernel, by decide +kernel⟩, by decide +kernel⟩
set_option maxRecDepth 20000 in
theorem mv_Trees_hangAll : kMv yX8_hangAll cX8_hangAll 2 none 8 0 := ⟨(ktb4 159 (by decide +kernel) (by decide +kernel)), (ktb4 158 (by decide +kernel) (by decide +kernel)), (ktb0 30 (by decide +kernel) (by decide +kernel)), (ktb1 4 (by decide +kernel) (by decide +kernel)), ⟨_, _, rfl⟩, ⟨by decide +kernel, by decide +kernel⟩, by decide +kernel⟩
set_option maxRecDepth 20000 in
theorem mv_Trees_levelsHold : kMv yX8_levelsHold cX8_levelsHold 5 (some .boolean) 8 1 := ⟨(ktb3 68 (by decide +kernel) (by decide +kernel)), (ktb3 66 (by decide +kernel) (by decide +kernel)), (ktb3 67 (by decide +kernel) (by decide +kernel)), (ktb1 4 (by decide +kernel) (by decide +kernel)), ⟨_, _, rfl⟩, ⟨by decide +kernel, by decide +kernel⟩, by decide +kernel⟩
set_option maxRecDepth 20000 in
theorem mv_Trees_mend : kMv yX8_mend cX8_mend 7 none 8 1 := ⟨(ktb4 142 (by decide +kernel) (by decide +kernel)), (ktb4 141 (by decide +kernel) (by decide +kernel)), (ktb0 26 (by decide +kernel) (by decide +kernel)), (ktb1 4 (by decide +kernel) (by decide +kernel)), ⟨_, _, rfl⟩, ⟨by decide +kernel, by decide +kernel⟩, by decide +kernel⟩
set_option maxRecDepth 20000 in
theorem mv_Trees_nodeAdded : kMv yX8_nodeAdded cX8_nodeAdded 2 none 8 1 := ⟨(ktb3 212 (by decide +kernel) (by decide +kernel)), (ktb3 210 (by decide +kernel) (by decide +kernel)), (ktb3 211 (by decide +kernel) (by decide +kernel)), (ktb1 4 (by decide +kernel) (by decide +kernel)), ⟨_, _, rfl⟩, ⟨by decide +kernel, by decide +kernel⟩, by decide +kernel⟩
set_option maxRecDepth 20000 in
theorem mv_Trees_parts : kMv yX8_parts cX8_parts 1 (some .int) 8 0 := ⟨(ktb4 167 (by decide +kernel) (by decide +kernel)), (ktb4 165 (by decide +kernel) (by decide +kernel)), (ktb4 166 (by decide +kernel) (by decide +kernel)), (ktb1 4 (by decide +kernel) (by decide +kernel)), ⟨_, _, rfl⟩, ⟨by decide +kernel, by decide +kernel⟩, by decide +kernel⟩
set_option maxRecDepth 20000 in
theorem mv_Trees_place : kMv yX8_place cX8_place 6 none 8 5 := ⟨(ktb3 220 (by decide +kernel) (by decide +kernel)), (ktb3 219 (by decide +kernel) (by decide +kernel)), (ktb0 17 (by decide +kernel) (by decide +kernel)), (ktb1 4 (by decide +kernel) (by decide +kernel)), ⟨_, _, rfl⟩, ⟨by decide +kernel, by decide +kernel⟩, by decide +kernel⟩
set_option maxRecDepth 20000 in
theorem mv_Trees_raiseTree : kMv yX8_raiseTree cX8_raiseTree 5 none 8 2 := ⟨(ktb4 151 (by decide +kernel) (by decide +kernel)), (ktb4 150 (by decide +kernel) (by decide +kernel)), (ktb0 28 (by decide +kernel) (by decide +kernel)), (ktb1 4 (by decide +kernel) (by decide +kernel)), ⟨_, _, rfl⟩, ⟨by decide +kernel, by decide +kernel⟩, by decide +kernel⟩
set_option maxRecDepth 20000 in
theorem mv_Trees_replace : kMv yX8_replace cX8_replace 8 (some .boolean) 8 2 := ⟨(ktb4 155 (by decide +kernel) (by decide +kernel)), (ktb4 154 (by decide +kernel) (by decide +kernel)), (ktb0 29 (by decide +kernel) (by decide +kernel)), (ktb1 4 (by decide +kernel) (by decide +kernel)), ⟨_, _, rfl⟩, ⟨by decide +kernel, by decide +kernel⟩, by decide +kernel⟩
set_option maxRecDepth 20000 in
theorem mv_Trees_spanJust : kMv yX8_spanJust cX8_spanJust 4 (some .boolean) 8 1 := ⟨(ktb3 34 (by decide +kernel) (by decide +kernel)), (ktb3 32 (by decide +kernel) (by decide +kernel)), (ktb3 33 (by decide +kernel) (by decide +kernel)), (ktb1 4 (by decide +kernel) (by decide +kernel)), ⟨_, _, rfl⟩, ⟨by decide +kernel, by decide +kernel⟩, by decide +kernel⟩
set_option maxRecDepth 20000 in
theorem mv_Trees_together : kMv yX8_together cX8_together 3 (some .boolean) 8 2 := ⟨(ktb4 44 (by decide +kernel) (by decide +kernel)), (ktb4 42 (by decide +kernel) (by decide +kernel)), (ktb4 43 (by decide +kernel) (by decide +kernel)), (ktb1 4 (by decide +kernel) (by decide +kernel)), ⟨_, _, rfl⟩, ⟨by decide +kernel, by decide +kernel⟩, by decide +kernel⟩
set_option maxRecDepth 20000 in
theorem mv_Trees_treeArcs : kMv yX8_treeArcs cX8_treeArcs 3 (some .int) 8 0 := ⟨(ktb4 171 (by decide +kernel) (by decide +kernel)), (ktb4 169 (by decide +kernel) (by decide +kernel)), (ktb4 170 (by decide +kernel) (by decide +kernel)), (ktb1 4 (by decide +kernel) (by decide +kernel)), ⟨_, _, rfl⟩, ⟨by decide +kernel, by decide +kernel⟩, by decide +kernel⟩
set_option maxRecDepth 20000 in
theorem mv_Twice_bridges : kMv yX9_bridges cX9_bridges 3 (some .int) 9 0 := ⟨(ktb5 187 (by decide +kernel) (by decide +kernel)), (ktb5 185 (by decide +kernel) (by decide +kernel)), (ktb5 186 (by decide +kernel) (by decide +kernel)), (ktb1 6 (by decide +kernel) (by decide +kernel)), ⟨_, _, rfl⟩, ⟨by decide +kernel, by decide +kernel⟩, by decide +kernel⟩
set_option maxRecDepth 20000 in
theorem mv_Twice_isBridge : kMv yX9_isBridge cX9_isBridge 2 (some .boolean) 9 1 := ⟨(ktb5 41 (by decide +kernel) (by decide +kernel)), (ktb5 39 (by decide +kernel) (by decide +kernel)), (ktb5 40 (by decide +kernel) (by decide +kernel)), (ktb1 6 (by decide +kernel) (by decide +kernel)), ⟨_, _, rfl⟩, ⟨by decide +kernel, by decide +kernel⟩, by decide +kernel⟩
set_option maxRecDepth 20000 in
theorem mv_Twice_look : kMv yX9_look cX9_look 3 none 9 0 := ⟨(ktb4 206 (by decide +kernel) (by decide +kernel)), (ktb4 205 (by decide +kernel) (by decide +kernel)), (ktb0 31 (by decide +kernel) (by decide +kernel)), (ktb1 6 (by decide +kernel) (by decide +kernel)), ⟨_, _, rfl⟩, ⟨by decide +kernel, by decide +kernel⟩, by decide +kernel⟩
set_option maxRecDepth 20000 in
theorem mv_Twice_tie : kMv yX9_tie cX9_tie 9 none 9 2 := ⟨(ktb4 210 (by decide +kernel) (by decide +kernel)), (ktb4 209 (by decide +kernel) (by decide +kernel)), (ktb0 32 (by decide +kernel) (by decide +kernel)), (ktb1 6 (by decide +kernel) (by decide +kernel)), ⟨_, _, rfl⟩, ⟨by decide +kernel, by decide +kernel⟩, by decide +kernel⟩
set_option maxRecDepth 20000 in
theorem mv_Twice_together : kMv yX9_together cX9_together 3 (some .boolean) 9 2 := ⟨(ktb4 202 (by decide +kernel) (by decide +kernel)), (ktb4 200 (by decide +kernel) (by decide +kernel)), (ktb4 201 (by decide +kernel) (by decide +kernel)), (ktb1 6 (by decide +kernel) (by decide +kernel)), ⟨_, _, rfl⟩, ⟨by decide +kernel, by decide +kernel⟩, by decide +kernel⟩
set_option maxRecDepth 20000 in
theorem mv_Twice_topOf : kMv yX9_topOf cX9_topOf 4 (some .int) 9 1 := ⟨(ktb4 214 (by decide +kernel) (by decide +kernel)), (ktb4 213 (by decide +kernel) (by decide +kernel)), (ktb0 33 (by decide +kernel) (by decide +kernel)), (ktb1 6 (by decide +kernel) (by decide +kernel)), ⟨_, _, rfl⟩, ⟨by decide +kernel, by decide +kernel⟩, by decide +kernel⟩
set_option maxRecDepth 20000 in
theorem mv_Web_addArc : kMv yX10_addArc cX10_addArc 4 (some .int) 10 2 := ⟨(ktb4 32 (by decide +kernel) (by decide +kernel)), (ktb4 30 (by decide +kernel) (by decide +kernel)), (ktb4 31 (by decide +kernel) (by decide +kernel)), (ktb1 2 (by decide +kernel) (by decide +kernel)), ⟨_, _, rfl⟩, ⟨by decide +kernel, by decide +kernel⟩, by decide +kernel⟩
set_option maxRecDepth 20000 in
theorem mv_Web_addNode : kMv yX10_addNode cX10_addNode 2 (some .int) 10 0 := ⟨(ktb3 204 (by decide +kernel) (by decide +kernel)), (ktb3 202 (by decide +kernel) (by decide +kernel)), (ktb3 203 (by decide +kernel) (by decide +kernel)), (ktb1 2 (by decide +kernel) (by decide +kernel)), ⟨_, _, rfl⟩, ⟨by decide +kernel, by decide +kernel⟩, by decide +kernel⟩
set_option maxRecDepth 20000 in
theorem mv_Web_arcAt : kMv yX10_arcAt cX10_arcAt 4 (some .int) 10 2 := ⟨(ktb2 234 (by decide +kernel) (by decide +kernel)), (ktb2 232 (by decide +kernel) (by decide +kernel)), (ktb2 233 (by decide +kernel) (by decide +kernel)), (ktb1 2 (by decide +kernel) (by decide +kernel)), ⟨_, _, rfl⟩, ⟨by decide +kernel, by decide +kernel⟩, by decide +kernel⟩
set_option maxRecDepth 20000 in
theorem mv_Web_degree : kMv yX10_degree cX10_degree 2 (some .int) 10 1 := ⟨(ktb2 230 (by decide +kernel) (by decide +kernel)), (ktb2 228 (by decide +kernel) (by decide +kernel)), (ktb2 229 (by decide +kernel) (by decide +kernel)), (ktb1 2 (by decide +kernel) (by decide +kernel)), ⟨_, _, rfl⟩, ⟨by decide +kernel, by decide +kernel⟩, by decide +kernel⟩
set_option maxRecDepth 20000 in
theorem mv_Web_empty : kMv yX10_empty cX10_empty 1 none 10 0 := ⟨(ktb3 108 (by decide +kernel) (by decide +kernel)), (ktb3 106 (by decide +kernel) (by decide +kernel)), (ktb3 107 (by decide +kernel) (by decide +kernel)), (ktb1 2 (by decide +kernel) (by decide +kernel)), ⟨_, _, rfl⟩, ⟨by decide +kernel, by decide +kernel⟩, by decide +kernel⟩
set_option maxRecDepth 20000 in
theorem mv_Web_hasArc : kMv yX10_hasArc cX10_hasArc 2 (some .boolean) 10 1 := ⟨(ktb4 121 (by decide +kernel) (by decide +kernel)), (ktb4 119 (by decide +kernel) (by decide +kernel)), (ktb4 120 (by decide +kernel) (by decide +kernel)), (ktb1 2 (by decide +kernel) (by decide +kernel)), ⟨_, _, rfl⟩, ⟨by decide +kernel, by decide +kernel⟩, by decide +kernel⟩
set_option maxRecDepth 20000 in
theorem mv_Web_hasNode : kMv yX10_hasNode cX10_hasNode 2 (some .boolean) 10 1 := ⟨(ktb4 81 (by decide +kernel) (by decide +kernel)), (ktb4 79 (by decide +kernel) (by decide +kernel)), (ktb4 80 (by decide +kernel) (by decide +kernel)), (ktb1 2 (by decide +kernel) (by decide +kernel)), ⟨_, _, rfl⟩, ⟨by decide +kernel, by decide +kernel⟩, by decide +kernel⟩
set_option maxRecDepth 20000 in
theorem mv_Web_hasRoom : kMv yX10_hasRoom cX10_hasRoom 2 (some .boolean) 10 1 := ⟨(ktb4 23 (by decide +kernel) (by decide +kernel)), (ktb4 21 (by decide +kernel) (by decide +kernel)), (ktb4 22 (by decide +kernel) (by decide +kernel)), (ktb1 2 (by decide +kernel) (by decide +kernel)), ⟨_, _, rfl⟩, ⟨by decide +kernel, by decide +kernel⟩, by decide +kernel⟩
set_option maxRecDepth 20000 in
theorem mv_Web_other : kMv yX10_other cX10_other 3 (some .int) 10 2 := ⟨(ktb2 238 (by decide +kernel) (by decide +kernel)), (ktb2 236 (by decide +kernel) (by decide +kernel)), (ktb2 237 (by decide +kernel) (by decide +kernel)), (ktb1 2 (by decide +kernel) (by decide +kernel)), ⟨_, _, rfl⟩, ⟨by decide +kernel, by decide +kernel⟩, by decide +kernel⟩
set_option maxRecDepth 20000 in
theorem mv_Web_removeArc : kMv yX10_removeArc cX10_removeArc 2 none 10 1 := ⟨(ktb4 126 (by decide +kernel) (by decide +kernel)), (ktb4 124 (by decide +kernel) (by decide +kernel)), (ktb4 125 (by decide +kernel) (by decide +kernel)), (ktb1 2 (by decide +kernel) (by decide +kernel)), ⟨_, _, rfl⟩, ⟨by decide +kernel, by decide +kernel⟩, by decide +kernel⟩
