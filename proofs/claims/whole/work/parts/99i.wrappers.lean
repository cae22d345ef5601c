/-! WRAPPERS 2: the methods of the face that throw; the wrappers (printed by gen2.py) -/
def site_node : Nat → Option (String × Int) := fun pc => if pc = 13 then some (eUO, 1) else none
abbrev MT_KP_node : kM := (cX11_node, yX11_node.cls, 2, { frames := 6, cells := 1, slots := 6, locals := 100 }, (some .int))
set_option maxRecDepth 20000 in
theorem bt_KP_node : kSt MT_KP_node 0 0 0 0 s_KP_node :=
  (kSt_seq (p1 := 23) (kSt_if (kCd_C (kE_get (kE_get (kE_aload_0 dX11_node_0) lf_RX11_16 dX11_node_1) lf_RX11_96 dX11_node_4) (kE_sipush dX11_node_7 (by rfl) ⟨by decide, by decide⟩) (kJf_3 (tgt := 23) dX11_node_10 (by decide))) kSt_throw kSt_skip)
  (kSt_seq (p1 := 31) (kSt_E (kE_call (kEs_snoc kEs_nil (kE_get (kE_aload_0 dX11_node_23) lf_RX11_85 dX11_node_24)) dX11_node_27 c_Plan_forget mv_Plan_forget lm_RX11_106 ⟨rfl, rfl, by decide, by decide⟩ (by decide)) dX11_node_30)
  (kSt_ret (tag := 0) (kE_call (kEs_snoc (kEs_snoc kEs_nil (kE_aload_0 dX11_node_31)) (kE_iload_1 dX11_node_32)) dX11_node_33 c_KP_addNode mv_KP_addNode lm_RX11_110 ⟨rfl, rfl, by decide, by decide⟩ (by decide)) ⟨fun _ => dX11_node_36, fun q => (by cases q), fun q => (by cases q)⟩)))
theorem cl_KP_99 : Cond.classLink RX11 99 eUO ∈ kTBL := (ktb3 128 (by decide +kernel) (by decide +kernel))
theorem th_node : ∀ pc E, (site_node pc).map (·.1) = some E → kTh MT_KP_node pc E := by
  intro pc E h
  dsimp only [site_node] at h
  split at h
  · rename_i e; subst e; cases h; exact kTh_S (text := "no room for a node") rfl tw_103 cl_KP_99 (by decide +kernel) dX11_node_13 dX11_node_16 dX11_node_17 dX11_node_19 dX11_node_22 ⟨by decide, by decide, by decide, by decide⟩
  cases h
theorem cx_node : kConX yX11_node cX11_node 2 (some .int) { frames := 6, cells := 1, slots := 6, locals := 100 } 2 kI (fun pc => (site_node pc).map (·.1)) s_KP_node := kConX_of kEnds_I (by decide +kernel) (by decide) ⟨rfl, rfl⟩ ⟨0, 0, 0, bt_KP_node⟩ th_node
theorem mvx_node : kMv yX11_node cX11_node 2 (some .int) 11 1 := ⟨(ktb3 127 (by decide +kernel) (by decide +kernel)), (ktb3 125 (by decide +kernel) (by decide +kernel)), (ktb3 126 (by decide +kernel) (by decide +kernel)), (ktb1 1 (by decide +kernel) (by decide +kernel)), ⟨_, _, rfl⟩, ⟨by decide +kernel, by decide +kernel⟩, by decide +kernel⟩
theorem lmL_7 : Cond.methodLink RL 7 yX11_node ∈ kTBL := (ktb3 124 (by decide +kernel) (by decide +kernel))
theorem cl_L_13 : Cond.classLink RL 13 eUO ∈ kTBL := (ktb3 123 (by decide +kernel) (by decide +kernel))
theorem hh_node : ∀ (pc : Nat) (E : String) (k : Int), site_node pc = some (E, k) → kHh (cL_node, yL_node.cls, 4, { frames := 7, cells := 1, slots := 6, locals := 121 }, some .int) 4 [(0, 9, 12, 13)] E k := by
  intro pc E k h
  dsimp only [site_node] at h
  split at h
  · cases h
    exact ⟨⟨by decide, by decide⟩, [], (0, 9, 12, 13), [], 13, rfl, by decide, (fun z hz => by cases hz), by decide +kernel, by decide, cl_L_13, Or.inl ⟨3, dL_node_12, by decide, rfl⟩, dL_node_13, dL_node_14⟩
  cases h
theorem cw_node : kConW yL_node cL_node 4 [(0, 9, 12, 13)] { frames := 7, cells := 1, slots := 6, locals := 121 } 1 s_KP_node kI site_node := kWr (pE := 15) (by decide +kernel) (by decide) ⟨rfl, rfl⟩ cx_node mvx_node lmL_7 ⟨rfl, rfl, by decide, by decide⟩ dL_node_4
  (by
    intro xs hxs X σ C k
    obtain ⟨x0, rfl⟩ := kLen1 hxs
    exact (kg_aload_n C dL_node_0 rfl (kg_iconst C dL_node_1 (kg_aload_n C dL_node_2 rfl (kg_iload_n C dL_node_3 rfl k)))))
  (fun X L z σ C hz hr k => kg_i2l C dL_node_7 hr (kg_last C dL_node_8 ⟨by decide, by decide⟩ rfl (kg_goto (tgt := 15) C dL_node_9 (by decide) k)))
  dL_node_15 dL_node_16 hh_node
def site_chain : Nat → Option (String × Int) := fun pc => if pc = 12 then some (eIA, 1) else if pc = 50 then some (eUO, 2) else none
abbrev MT_KP_chain : kM := (cX11_chain, yX11_chain.cls, 4, { frames := 6, cells := 1, slots := 6, locals := 127 }, (some .int))
set_option maxRecDepth 20000 in
theorem bt_KP_chain : kSt MT_KP_chain 0 0 0 0 s_KP_chain :=
  (kSt_seq (p1 := 22) (kSt_if (kCd_or (kCd_C (kE_iload_1 dX11_chain_0) (kE_ic_1 dX11_chain_1) (kJt_2 (tgt := 12) dX11_chain_2 (by decide))) (kCd_C (kE_iload_1 dX11_chain_5) (kE_sipush dX11_chain_6 (by rfl) ⟨by decide, by decide⟩) (kJf_4 (tgt := 22) dX11_chain_9 (by decide)))) kSt_throw kSt_skip)
  (kSt_seq (p1 := 60) (kSt_if (kCd_or (kCd_C (kE_iload_1 dX11_chain_22) (kE_bin (kE_sipush dX11_chain_23 (by rfl) ⟨by decide, by decide⟩) (kE_get (kE_get (kE_aload_0 dX11_chain_26) lf_RX11_16 dX11_chain_27) lf_RX11_96 dX11_chain_30) (kOp_sub dX11_chain_33)) (kJt_4 (tgt := 50) dX11_chain_34 (by decide))) (kCd_not (kCd_Z (kE_call (kEs_snoc (kEs_snoc kEs_nil (kE_get (kE_aload_0 dX11_chain_37) lf_RX11_16 dX11_chain_38)) (kE_bin (kE_iload_1 dX11_chain_41) (kE_ic_1 dX11_chain_42) (kOp_sub dX11_chain_43))) dX11_chain_44 c_Web_hasRoom mv_Web_hasRoom lm_RX11_119 ⟨rfl, rfl, by decide, by decide⟩ (by decide)) (kZt_1 (tgt := 60) dX11_chain_47 (by decide))))) kSt_throw kSt_skip)
  (kSt_seq (p1 := 68) (kSt_E (kE_call (kEs_snoc kEs_nil (kE_get (kE_aload_0 dX11_chain_60) lf_RX11_85 dX11_chain_61)) dX11_chain_64 c_Plan_forget mv_Plan_forget lm_RX11_106 ⟨rfl, rfl, by decide, by decide⟩ (by decide)) dX11_chain_67)
  (kSt_seq (p1 := 76) (kSt_let (kE_get (kE_get (kE_aload_0 dX11_chain_68) lf_RX11_16 dX11_chain_69) lf_RX11_96 dX11_chain_72) (kSet_istore_2 dX11_chain_75 (by decide)))
  (kSt_seq (p1 := 95) (kSt_trunc (kSt_seq (kSt_let (kE_ic_0 dX11_chain_76) (kSet_istore_3 dX11_chain_77 (by decide))) (kSt_for (pu := 89) (pt := 83) (kCd_C (kE_iload_3 dX11_chain_78) (kE_iload_1 dX11_chain_79) (kJf_2 (tgt := 95) dX11_chain_80 (by decide))) (kSt_E (kE_call (kEs_snoc (kEs_snoc kEs_nil (kE_aload_0 dX11_chain_83)) (kE_ic_0 dX11_chain_84)) dX11_chain_85 c_KP_addNode mv_KP_addNode lm_RX11_110 ⟨rfl, rfl, by decide, by decide⟩ (by decide)) dX11_chain_88) (kSt_goto (tgt := 78) (kSt_inc dX11_chain_89 (by decide)) dX11_chain_92 (by decide)))))
  (kSt_seq (p1 := 122) (kSt_trunc (kSt_seq (kSt_let (kE_ic_1 dX11_chain_95) (kSet_istore_3 dX11_chain_96 (by decide))) (kSt_for (pu := 116) (pt := 102) (kCd_C (kE_iload_3 dX11_chain_97) (kE_iload_1 dX11_chain_98) (kJf_2 (tgt := 122) dX11_chain_99 (by decide))) (kSt_E (kE_call (kEs_snoc (kEs_snoc (kEs_snoc (kEs_snoc kEs_nil (kE_aload_0 dX11_chain_102)) (kE_bin (kE_bin (kE_iload_2 dX11_chain_103) (kE_iload_3 dX11_chain_104) (kOp_add dX11_chain_105)) (kE_ic_1 dX11_chain_106) (kOp_sub dX11_chain_107))) (kE_bin (kE_iload_2 dX11_chain_108) (kE_iload_3 dX11_chain_109) (kOp_add dX11_chain_110))) (kE_ic_0 dX11_chain_111)) dX11_chain_112 c_KP_addArc mv_KP_addArc lm_RX11_125 ⟨rfl, rfl, by decide, by decide⟩ (by decide)) dX11_chain_115) (kSt_goto (tgt := 97) (kSt_inc dX11_chain_116 (by decide)) dX11_chain_119 (by decide)))))
  (kSt_ret (tag := 0) (kE_iload_2 dX11_chain_122) ⟨fun _ => dX11_chain_123, fun q => (by cases q), fun q => (by cases q)⟩)))))))
theorem cl_KP_114 : Cond.classLink RX11 114 eIA ∈ kTBL := (ktb4 4 (by decide +kernel) (by decide +kernel))
theorem th_chain : ∀ pc E, (site_chain pc).map (·.1) = some E → kTh MT_KP_chain pc E := by
  intro pc E h
  dsimp only [site_chain] at h
  split at h
  · rename_i e; subst e; cases h; exact kTh_S (text := "a chain has 1 to 300 nodes") rfl tw_118 cl_KP_114 (by decide +kernel) dX11_chain_12 dX11_chain_15 dX11_chain_16 dX11_chain_18 dX11_chain_21 ⟨by decide, by decide, by decide, by decide⟩
  split at h
  · rename_i e; subst e; cases h; exact kTh_S (text := "no room for the chain") rfl tw_103 cl_KP_99 (by decide +kernel) dX11_chain_50 dX11_chain_53 dX11_chain_54 dX11_chain_56 dX11_chain_59 ⟨by decide, by decide, by decide, by decide⟩
  cases h
theorem cx_chain : kConX yX11_chain cX11_chain 4 (some .int) { frames := 6, cells := 1, slots := 6, locals := 127 } 2 kI (fun pc => (site_chain pc).map (·.1)) s_KP_chain := kConX_of kEnds_I (by decide +kernel) (by decide) ⟨rfl, rfl⟩ ⟨0, 0, 0, bt_KP_chain⟩ th_chain
theorem mvx_chain : kMv yX11_chain cX11_chain 4 (some .int) 11 1 := ⟨(ktb4 3 (by decide +kernel) (by decide +kernel)), (ktb4 1 (by decide +kernel) (by decide +kernel)), (ktb4 2 (by decide +kernel) (by decide +kernel)), (ktb1 1 (by decide +kernel) (by decide +kernel)), ⟨_, _, rfl⟩, ⟨by decide +kernel, by decide +kernel⟩, by decide +kernel⟩
theorem lmL_15 : Cond.methodLink RL 15 yX11_chain ∈ kTBL := (ktb4 0 (by decide +kernel) (by decide +kernel))
theorem cl_L_18 : Cond.classLink RL 18 eIA ∈ kTBL := (ktb3 239 (by decide +kernel) (by decide +kernel))
theorem hh_chain : ∀ (pc : Nat) (E : String) (k : Int), site_chain pc = some (E, k) → kHh (cL_chain, yL_chain.cls, 4, { frames := 7, cells := 1, slots := 6, locals := 150 }, some .int) 4 [(0, 9, 12, 18), (0, 9, 15, 13)] E k := by
  intro pc E k h
  dsimp only [site_chain] at h
  split at h
  · cases h
    exact ⟨⟨by decide, by decide⟩, [], (0, 9, 12, 18), [(0, 9, 15, 13)], 13, rfl, by decide, (fun z hz => by cases hz), by decide +kernel, by decide, cl_L_18, Or.inl ⟨3, dL_chain_12, by decide, rfl⟩, dL_chain_13, dL_chain_14⟩
  split at h
  · cases h
    exact ⟨⟨by decide, by decide⟩, [(0, 9, 12, 18)], (0, 9, 15, 13), [], 16, rfl, by decide, (fun z hz => by
      rcases List.mem_cons.mp hz with rfl | hz
      · exact ⟨by decide, eIA, cl_L_18, by decide +kernel⟩
      cases hz), by decide +kernel, by decide, cl_L_13, Or.inl ⟨3, dL_chain_15, by decide, rfl⟩, dL_chain_16, dL_chain_17⟩
  cases h
theorem cw_chain : kConW yL_chain cL_chain 4 [(0, 9, 12, 18), (0, 9, 15, 13)] { frames := 7, cells := 1, slots := 6, locals := 150 } 1 s_KP_chain kI site_chain := kWr (pE := 18) (by decide +kernel) (by decide) ⟨rfl, rfl⟩ cx_chain mvx_chain lmL_15 ⟨rfl, rfl, by decide, by decide⟩ dL_chain_4
  (by
    intro xs hxs X σ C k
    obtain ⟨x0, rfl⟩ := kLen1 hxs
    exact (kg_aload_n C dL_chain_0 rfl (kg_iconst C dL_chain_1 (kg_aload_n C dL_chain_2 rfl (kg_iload_n C dL_chain_3 rfl k)))))
  (fun X L z σ C hz hr k => kg_i2l C dL_chain_7 hr (kg_last C dL_chain_8 ⟨by decide, by decide⟩ rfl (kg_goto (tgt := 18) C dL_chain_9 (by decide) k)))
  dL_chain_18 dL_chain_19 hh_chain
def site_put : Nat → Option (String × Int) := fun pc => if pc = 22 then some (eIO, 1) else if pc = 43 then some (eUO, 2) else none
abbrev MT_KP_put : kM := (cX11_put, yX11_put.cls, 4, { frames := 6, cells := 1, slots := 6, locals := 127 }, (some .int))
set_option maxRecDepth 20000 in
theorem bt_KP_put : kSt MT_KP_put 0 0 0 0 s_KP_put :=
  (kSt_seq (p1 := 32) (kSt_if (kCd_or (kCd_not (kCd_Z (kE_call (kEs_snoc (kEs_snoc kEs_nil (kE_get (kE_aload_0 dX11_put_0) lf_RX11_16 dX11_put_1)) (kE_iload_1 dX11_put_4)) dX11_put_5 c_Web_hasNode mv_Web_hasNode lm_RX11_129 ⟨rfl, rfl, by decide, by decide⟩ (by decide)) (kZf_1 (tgt := 22) dX11_put_8 (by decide)))) (kCd_not (kCd_Z (kE_call (kEs_snoc (kEs_snoc kEs_nil (kE_get (kE_aload_0 dX11_put_11) lf_RX11_16 dX11_put_12)) (kE_iload_2 dX11_put_15)) dX11_put_16 c_Web_hasNode mv_Web_hasNode lm_RX11_129 ⟨rfl, rfl, by decide, by decide⟩ (by decide)) (kZt_1 (tgt := 32) dX11_put_19 (by decide))))) kSt_throw kSt_skip)
  (kSt_seq (p1 := 53) (kSt_if (kCd_not (kCd_Z (kE_call (kEs_snoc (kEs_snoc kEs_nil (kE_get (kE_aload_0 dX11_put_32) lf_RX11_16 dX11_put_33)) (kE_ic_1 dX11_put_36)) dX11_put_37 c_Web_hasRoom mv_Web_hasRoom lm_RX11_119 ⟨rfl, rfl, by decide, by decide⟩ (by decide)) (kZt_1 (tgt := 53) dX11_put_40 (by decide)))) kSt_throw kSt_skip)
  (kSt_seq (p1 := 63) (kSt_let (kE_call (kEs_snoc (kEs_snoc (kEs_snoc kEs_nil (kE_get (kE_aload_0 dX11_put_53) lf_RX11_48 dX11_put_54)) (kE_iload_1 dX11_put_57)) (kE_iload_2 dX11_put_58)) dX11_put_59 c_Row_tellRing mv_Row_tellRing lm_RX11_139 ⟨rfl, rfl, by decide, by decide⟩ (by decide)) (kSet_istore_3 dX11_put_62 (by decide)))
  (kSt_seq (p1 := 76) (kSt_if (kCd_and (kCd_Z (kE_iload_3 dX11_put_63) (kZf_1 (tgt := 76) dX11_put_64 (by decide))) (kCd_Z (kE_get (kE_aload_0 dX11_put_67) lf_RX11_7 dX11_put_68) (kZf_1 (tgt := 76) dX11_put_71 (by decide)))) (kSt_ret (tag := 0) (kE_ic_m1 dX11_put_74) ⟨fun _ => dX11_put_75, fun q => (by cases q), fun q => (by cases q)⟩) kSt_skip)
  (kSt_seq (p1 := 84) (kSt_E (kE_call (kEs_snoc kEs_nil (kE_get (kE_aload_0 dX11_put_76) lf_RX11_85 dX11_put_77)) dX11_put_80 c_Plan_forget mv_Plan_forget lm_RX11_106 ⟨rfl, rfl, by decide, by decide⟩ (by decide)) dX11_put_83)
  (kSt_ret (tag := 0) (kE_call (kEs_snoc (kEs_snoc (kEs_snoc (kEs_snoc kEs_nil (kE_aload_0 dX11_put_84)) (kE_iload_1 dX11_put_85)) (kE_iload_2 dX11_put_86)) (kE_iload_3 dX11_put_87)) dX11_put_88 c_KP_addArc mv_KP_addArc lm_RX11_125 ⟨rfl, rfl, by decide, by decide⟩ (by decide)) ⟨fun _ => dX11_put_91, fun q => (by cases q), fun q => (by cases q)⟩))))))
theorem cl_KP_132 : Cond.classLink RX11 132 eIO ∈ kTBL := (ktb4 82 (by decide +kernel) (by decide +kernel))
theorem th_put : ∀ pc E, (site_put pc).map (·.1) = some E → kTh MT_KP_put pc E := by
  intro pc E h
  dsimp only [site_put] at h
  split at h
  · rename_i e; subst e; cases h; exact kTh_S (text := "no such node") rfl tw_136 cl_KP_132 (by decide +kernel) dX11_put_22 dX11_put_25 dX11_put_26 dX11_put_28 dX11_put_31 ⟨by decide, by decide, by decide, by decide⟩
  split at h
  · rename_i e; subst e; cases h; exact kTh_S (text := "no room for an arc") rfl tw_103 cl_KP_99 (by decide +kernel) dX11_put_43 dX11_put_46 dX11_put_47 dX11_put_49 dX11_put_52 ⟨by decide, by decide, by decide, by decide⟩
  cases h
theorem cx_put : kConX yX11_put cX11_put 4 (some .int) { frames := 6, cells := 1, slots := 6, locals := 127 } 3 kI (fun pc => (site_put pc).map (·.1)) s_KP_put := kConX_of kEnds_I (by decide +kernel) (by decide) ⟨rfl, rfl⟩ ⟨0, 0, 0, bt_KP_put⟩ th_put
theorem mvx_put : kMv yX11_put cX11_put 4 (some .int) 11 2 := ⟨(ktb4 77 (by decide +kernel) (by decide +kernel)), (ktb4 75 (by decide +kernel) (by decide +kernel)), (ktb4 76 (by decide +kernel) (by decide +kernel)), (ktb1 1 (by decide +kernel) (by decide +kernel)), ⟨_, _, rfl⟩, ⟨by decide +kernel, by decide +kernel⟩, by decide +kernel⟩
theorem lmL_20 : Cond.methodLink RL 20 yX11_put ∈ kTBL := (ktb4 74 (by decide +kernel) (by decide +kernel))
theorem cl_L_24 : Cond.classLink RL 24 eIO ∈ kTBL := (ktb4 73 (by decide +kernel) (by decide +kernel))
theorem hh_put : ∀ (pc : Nat) (E : String) (k : Int), site_put pc = some (E, k) → kHh (cL_put, yL_put.cls, 5, { frames := 7, cells := 1, slots := 6, locals := 150 }, some .int) 5 [(0, 10, 13, 24), (0, 10, 17, 13)] E k := by
  intro pc E k h
  dsimp only [site_put] at h
  split at h
  · cases h
    exact ⟨⟨by decide, by decide⟩, [], (0, 10, 13, 24), [(0, 10, 17, 13)], 15, rfl, by decide, (fun z hz => by cases hz), by decide +kernel, by decide, cl_L_24, Or.inr ⟨4, dL_put_13, by decide, rfl⟩, dL_put_15, dL_put_16⟩
  split at h
  · cases h
    exact ⟨⟨by decide, by decide⟩, [(0, 10, 13, 24)], (0, 10, 17, 13), [], 19, rfl, by decide, (fun z hz => by
      rcases List.mem_cons.mp hz with rfl | hz
      · exact ⟨by decide, eIO, cl_L_24, by decide +kernel⟩
      cases hz), by decide +kernel, by decide, cl_L_13, Or.inr ⟨4, dL_put_17, by decide, rfl⟩, dL_put_19, dL_put_20⟩
  cases h
theorem cw_put : kConW yL_put cL_put 5 [(0, 10, 13, 24), (0, 10, 17, 13)] { frames := 7, cells := 1, slots := 6, locals := 150 } 2 s_KP_put kI site_put := kWr (pE := 21) (by decide +kernel) (by decide) ⟨rfl, rfl⟩ cx_put mvx_put lmL_20 ⟨rfl, rfl, by decide, by decide⟩ dL_put_5
  (by
    intro xs hxs X σ C k
    obtain ⟨x0, x1, rfl⟩ := kLen2 hxs
    exact (kg_aload_n C dL_put_0 rfl (kg_iconst C dL_put_1 (kg_aload_n C dL_put_2 rfl (kg_iload_n C dL_put_3 rfl (kg_iload_n C dL_put_4 rfl k))))))
  (fun X L z σ C hz hr k => kg_i2l C dL_put_8 hr (kg_last C dL_put_9 ⟨by decide, by decide⟩ rfl (kg_goto (tgt := 21) C dL_put_10 (by decide) k)))
  dL_put_21 dL_put_22 hh_put
def site_take : Nat → Option (String × Int) := fun pc => if pc = 11 then some (eIO, 1) else none
abbrev MT_KP_take : kM := (cX11_take, yX11_take.cls, 2, { frames := 6, cells := 1, slots := 6, locals := 106 }, (some .int))
set_option maxRecDepth 20000 in
theorem bt_KP_take : kSt MT_KP_take 0 0 0 0 s_KP_take :=
  (kSt_seq (p1 := 21) (kSt_if (kCd_not (kCd_Z (kE_call (kEs_snoc (kEs_snoc kEs_nil (kE_get (kE_aload_0 dX11_take_0) lf_RX11_16 dX11_take_1)) (kE_iload_1 dX11_take_4)) dX11_take_5 c_Web_hasArc mv_Web_hasArc lm_RX11_143 ⟨rfl, rfl, by decide, by decide⟩ (by decide)) (kZt_1 (tgt := 21) dX11_take_8 (by decide)))) kSt_throw kSt_skip)
  (kSt_seq (p1 := 29) (kSt_E (kE_call (kEs_snoc kEs_nil (kE_get (kE_aload_0 dX11_take_21) lf_RX11_85 dX11_take_22)) dX11_take_25 c_Plan_forget mv_Plan_forget lm_RX11_106 ⟨rfl, rfl, by decide, by decide⟩ (by decide)) dX11_take_28)
  (kSt_seq (p1 := 37) (kSt_call (kEs_snoc (kEs_snoc kEs_nil (kE_get (kE_aload_0 dX11_take_29) lf_RX11_16 dX11_take_30)) (kE_iload_1 dX11_take_33)) dX11_take_34 c_Web_removeArc mv_Web_removeArc lm_RX11_148 ⟨rfl, rfl, by decide, by decide⟩)
  (kSt_seq (p1 := 45) (kSt_call (kEs_snoc (kEs_snoc kEs_nil (kE_get (kE_aload_0 dX11_take_37) lf_RX11_25 dX11_take_38)) (kE_iload_1 dX11_take_41)) dX11_take_42 c_Trees_arcRemoved mv_Trees_arcRemoved lm_RX11_152 ⟨rfl, rfl, by decide, by decide⟩)
  (kSt_seq (p1 := 53) (kSt_call (kEs_snoc (kEs_snoc kEs_nil (kE_get (kE_aload_0 dX11_take_45) lf_RX11_48 dX11_take_46)) (kE_iload_1 dX11_take_49)) dX11_take_50 c_Row_arcRemoved mv_Row_arcRemoved lm_RX11_155 ⟨rfl, rfl, by decide, by decide⟩)
  (kSt_seq (p1 := 82) (kSt_put (kE_aload_0 dX11_take_53) (kE_call (kEs_snoc (kEs_snoc (kEs_snoc kEs_nil (kE_get (kE_aload_0 dX11_take_54) lf_RX11_69 dX11_take_55)) (kE_iald (kE_get (kE_get (kE_aload_0 dX11_take_58) lf_RX11_16 dX11_take_59) lf_RX11_156 dX11_take_62) (kE_iload_1 dX11_take_65) dX11_take_66)) (kE_iald (kE_get (kE_get (kE_aload_0 dX11_take_67) lf_RX11_16 dX11_take_68) lf_RX11_160 dX11_take_71) (kE_iload_1 dX11_take_74) dX11_take_75)) dX11_take_76 c_Chosen_arcChanged mv_Chosen_arcChanged lm_RX11_163 ⟨rfl, rfl, by decide, by decide⟩ (by decide)) lp_RX11_92 dX11_take_79)
  (kSt_ret (tag := 0) (kE_call (kEs_snoc kEs_nil (kE_get (kE_aload_0 dX11_take_82) lf_RX11_25 dX11_take_83)) dX11_take_86 c_Trees_parts mv_Trees_parts lm_RX11_167 ⟨rfl, rfl, by decide, by decide⟩ (by decide)) ⟨fun _ => dX11_take_89, fun q => (by cases q), fun q => (by cases q)⟩)))))))
theorem th_take : ∀ pc E, (site_take pc).map (·.1) = some E → kTh MT_KP_take pc E := by
  intro pc E h
  dsimp only [site_take] at h
  split at h
  · rename_i e; subst e; cases h; exact kTh_S (text := "no such arc") rfl tw_136 cl_KP_132 (by decide +kernel) dX11_take_11 dX11_take_14 dX11_take_15 dX11_take_17 dX11_take_20 ⟨by decide, by decide, by decide, by decide⟩
  cases h
theorem cx_take : kConX yX11_take cX11_take 2 (some .int) { frames := 6, cells := 1, slots := 6, locals := 106 } 2 kI (fun pc => (site_take pc).map (·.1)) s_KP_take := kConX_of kEnds_I (by decide +kernel) (by decide) ⟨rfl, rfl⟩ ⟨0, 0, 0, bt_KP_take⟩ th_take
theorem mvx_take : kMv yX11_take cX11_take 2 (some .int) 11 1 := ⟨(ktb4 117 (by decide +kernel) (by decide +kernel)), (ktb4 115 (by decide +kernel) (by decide +kernel)), (ktb4 116 (by decide +kernel) (by decide +kernel)), (ktb1 1 (by decide +kernel) (by decide +kernel)), ⟨_, _, rfl⟩, ⟨by decide +kernel, by decide +kernel⟩, by decide +kernel⟩
theorem lmL_26 : Cond.methodLink RL 26 yX11_take ∈ kTBL := (ktb4 114 (by decide +kernel) (by decide +kernel))
theorem hh_take : ∀ (pc : Nat) (E : String) (k : Int), site_take pc = some (E, k) → kHh (cL_take, yL_take.cls, 4, { frames := 7, cells := 1, slots := 6, locals := 127 }, some .int) 4 [(0, 9, 12, 24)] E k := by
  intro pc E k h
  dsimp only [site_take] at h
  split at h
  · cases h
    exact ⟨⟨by decide, by decide⟩, [], (0, 9, 12, 24), [], 13, rfl, by decide, (fun z hz => by cases hz), by decide +kernel, by decide, cl_L_24, Or.inl ⟨3, dL_take_12, by decide, rfl⟩, dL_take_13, dL_take_14⟩
  cases h
theorem cw_take : kConW yL_take cL_take 4 [(0, 9, 12, 24)] { frames := 7, cells := 1, slots := 6, locals := 127 } 1 s_KP_take kI site_take := kWr (pE := 15) (by decide +kernel) (by decide) ⟨rfl, rfl⟩ cx_take mvx_take lmL_26 ⟨rfl, rfl, by decide, by decide⟩ dL_take_4
  (by
    intro xs hxs X σ C k
    obtain ⟨x0, rfl⟩ := kLen1 hxs
    exact (kg_aload_n C dL_take_0 rfl (kg_iconst C dL_take_1 (kg_aload_n C dL_take_2 rfl (kg_iload_n C dL_take_3 rfl k)))))
  (fun X L z σ C hz hr k => kg_i2l C dL_take_7 hr (kg_last C dL_take_8 ⟨by decide, by decide⟩ rfl (kg_goto (tgt := 15) C dL_take_9 (by decide) k)))
  dL_take_15 dL_take_16 hh_take
def site_weigh : Nat → Option (String × Int) := fun pc => if pc = 11 then some (eIO, 1) else none
abbrev MT_KP_weigh : kM := (cX11_weigh, yX11_weigh.cls, 3, { frames := 6, cells := 1, slots := 6, locals := 94 }, (some .int))
set_option maxRecDepth 20000 in
theorem bt_KP_weigh : kSt MT_KP_weigh 0 0 0 0 s_KP_weigh :=
  (kSt_seq (p1 := 21) (kSt_if (kCd_not (kCd_Z (kE_call (kEs_snoc (kEs_snoc kEs_nil (kE_get (kE_aload_0 dX11_weigh_0) lf_RX11_16 dX11_weigh_1)) (kE_iload_1 dX11_weigh_4)) dX11_weigh_5 c_Web_hasNode mv_Web_hasNode lm_RX11_129 ⟨rfl, rfl, by decide, by decide⟩ (by decide)) (kZt_1 (tgt := 21) dX11_weigh_8 (by decide)))) kSt_throw kSt_skip)
  (kSt_ret (tag := 0) (kE_call (kEs_snoc (kEs_snoc (kEs_snoc kEs_nil (kE_get (kE_aload_0 dX11_weigh_21) lf_RX11_69 dX11_weigh_22)) (kE_iload_1 dX11_weigh_25)) (kE_iload_2 dX11_weigh_26)) dX11_weigh_27 c_Chosen_reweigh mv_Chosen_reweigh lm_RX11_170 ⟨rfl, rfl, by decide, by decide⟩ (by decide)) ⟨fun _ => dX11_weigh_30, fun q => (by cases q), fun q => (by cases q)⟩))
theorem th_weigh : ∀ pc E, (site_weigh pc).map (·.1) = some E → kTh MT_KP_weigh pc E := by
  intro pc E h
  dsimp only [site_weigh] at h
  split at h
  · rename_i e; subst e; cases h; exact kTh_S (text := "no such node") rfl tw_136 cl_KP_132 (by decide +kernel) dX11_weigh_11 dX11_weigh_14 dX11_weigh_15 dX11_weigh_17 dX11_weigh_20 ⟨by decide, by decide, by decide, by decide⟩
  cases h
theorem cx_weigh : kConX yX11_weigh cX11_weigh 3 (some .int) { frames := 6, cells := 1, slots := 6, locals := 94 } 3 kI (fun pc => (site_weigh pc).map (·.1)) s_KP_weigh := kConX_of kEnds_I (by decide +kernel) (by decide) ⟨rfl, rfl⟩ ⟨0, 0, 0, bt_KP_weigh⟩ th_weigh
theorem mvx_weigh : kMv yX11_weigh cX11_weigh 3 (some .int) 11 2 := ⟨(ktb4 178 (by decide +kernel) (by decide +kernel)), (ktb4 176 (by decide +kernel) (by decide +kernel)), (ktb4 177 (by decide +kernel) (by decide +kernel)), (ktb1 1 (by decide +kernel) (by decide +kernel)), ⟨_, _, rfl⟩, ⟨by decide +kernel, by decide +kernel⟩, by decide +kernel⟩
theorem lmL_29 : Cond.methodLink RL 29 yX11_weigh ∈ kTBL := (ktb4 175 (by decide +kernel) (by decide +kernel))
theorem hh_weigh : ∀ (pc : Nat) (E : String) (k : Int), site_weigh pc = some (E, k) → kHh (cL_weigh, yL_weigh.cls, 5, { frames := 7, cells := 1, slots := 6, locals := 116 }, some .int) 5 [(0, 10, 13, 24)] E k := by
  intro pc E k h
  dsimp only [site_weigh] at h
  split at h
  · cases h
    exact ⟨⟨by decide, by decide⟩, [], (0, 10, 13, 24), [], 15, rfl, by decide, (fun z hz => by cases hz), by decide +kernel, by decide, cl_L_24, Or.inr ⟨4, dL_weigh_13, by decide, rfl⟩, dL_weigh_15, dL_weigh_16⟩
  cases h
theorem cw_weigh : kConW yL_weigh cL_weigh 5 [(0, 10, 13, 24)] { frames := 7, cells := 1, slots := 6, locals := 116 } 2 s_KP_weigh kI site_weigh := kWr (pE := 17) (by decide +kernel) (by decide) ⟨rfl, rfl⟩ cx_weigh mvx_weigh lmL_29 ⟨rfl, rfl, by decide, by decide⟩ dL_weigh_5
  (by
    intro xs hxs X σ C k
    obtain ⟨x0, x1, rfl⟩ := kLen2 hxs
    exact (kg_aload_n C dL_weigh_0 rfl (kg_iconst C dL_weigh_1 (kg_aload_n C dL_weigh_2 rfl (kg_iload_n C dL_weigh_3 rfl (kg_iload_n C dL_weigh_4 rfl k))))))
  (fun X L z σ C hz hr k => kg_i2l C dL_weigh_8 hr (kg_last C dL_weigh_9 ⟨by decide, by decide⟩ rfl (kg_goto (tgt := 17) C dL_weigh_10 (by decide) k)))
  dL_weigh_17 dL_weigh_18 hh_weigh
def site_joined : Nat → Option (String × Int) := fun pc => if pc = 22 then some (eIO, 1) else none
abbrev MT_KP_joined : kM := (cX11_joined, yX11_joined.cls, 3, { frames := 6, cells := 1, slots := 6, locals := 90 }, (some .boolean))
set_option maxRecDepth 20000 in
theorem bt_KP_joined : kSt MT_KP_joined 0 0 0 0 s_KP_joined :=
  (kSt_seq (p1 := 32) (kSt_if (kCd_or (kCd_not (kCd_Z (kE_call (kEs_snoc (kEs_snoc kEs_nil (kE_get (kE_aload_0 dX11_joined_0) lf_RX11_16 dX11_joined_1)) (kE_iload_1 dX11_joined_4)) dX11_joined_5 c_Web_hasNode mv_Web_hasNode lm_RX11_129 ⟨rfl, rfl, by decide, by decide⟩ (by decide)) (kZf_1 (tgt := 22) dX11_joined_8 (by decide)))) (kCd_not (kCd_Z (kE_call (kEs_snoc (kEs_snoc kEs_nil (kE_get (kE_aload_0 dX11_joined_11) lf_RX11_16 dX11_joined_12)) (kE_iload_2 dX11_joined_15)) dX11_joined_16 c_Web_hasNode mv_Web_hasNode lm_RX11_129 ⟨rfl, rfl, by decide, by decide⟩ (by decide)) (kZt_1 (tgt := 32) dX11_joined_19 (by decide))))) kSt_throw kSt_skip)
  (kSt_ret (tag := 0) (kE_call (kEs_snoc (kEs_snoc (kEs_snoc kEs_nil (kE_get (kE_aload_0 dX11_joined_32) lf_RX11_25 dX11_joined_33)) (kE_iload_1 dX11_joined_36)) (kE_iload_2 dX11_joined_37)) dX11_joined_38 c_Trees_together mv_Trees_together lm_RX11_173 ⟨rfl, rfl, by decide, by decide⟩ (by decide)) ⟨fun _ => dX11_joined_41, fun q => (by cases q), fun q => (by cases q)⟩))
theorem th_joined : ∀ pc E, (site_joined pc).map (·.1) = some E → kTh MT_KP_joined pc E := by
  intro pc E h
  dsimp only [site_joined] at h
  split at h
  · rename_i e; subst e; cases h; exact kTh_S (text := "no such node") rfl tw_136 cl_KP_132 (by decide +kernel) dX11_joined_22 dX11_joined_25 dX11_joined_26 dX11_joined_28 dX11_joined_31 ⟨by decide, by decide, by decide, by decide⟩
  cases h
theorem cx_joined : kConX yX11_joined cX11_joined 3 (some .boolean) { frames := 6, cells := 1, slots := 6, locals := 90 } 3 kZ (fun pc => (site_joined pc).map (·.1)) s_KP_joined := kConX_of kEnds_Z (by decide +kernel) (by decide) ⟨rfl, rfl⟩ ⟨0, 0, 0, bt_KP_joined⟩ th_joined
theorem mvx_joined : kMv yX11_joined cX11_joined 3 (some .boolean) 11 2 := ⟨(ktb4 190 (by decide +kernel) (by decide +kernel)), (ktb4 188 (by decide +kernel) (by decide +kernel)), (ktb4 189 (by decide +kernel) (by decide +kernel)), (ktb1 1 (by decide +kernel) (by decide +kernel)), ⟨_, _, rfl⟩, ⟨by decide +kernel, by decide +kernel⟩, by decide +kernel⟩
theorem lmL_32 : Cond.methodLink RL 32 yX11_joined ∈ kTBL := (ktb4 187 (by decide +kernel) (by decide +kernel))
theorem hh_joined : ∀ (pc : Nat) (E : String) (k : Int), site_joined pc = some (E, k) → kHh (cL_joined, yL_joined.cls, 5, { frames := 7, cells := 1, slots := 6, locals := 112 }, some .int) 5 [(0, 17, 20, 24)] E k := by
  intro pc E k h
  dsimp only [site_joined] at h
  split at h
  · cases h
    exact ⟨⟨by decide, by decide⟩, [], (0, 17, 20, 24), [], 22, rfl, by decide, (fun z hz => by cases hz), by decide +kernel, by decide, cl_L_24, Or.inr ⟨4, dL_joined_20, by decide, rfl⟩, dL_joined_22, dL_joined_23⟩
  cases h
theorem cw_joined : kConW yL_joined cL_joined 5 [(0, 17, 20, 24)] { frames := 7, cells := 1, slots := 6, locals := 112 } 2 s_KP_joined kZ site_joined := kWr (pE := 24) (by decide +kernel) (by decide) ⟨rfl, rfl⟩ cx_joined mvx_joined lmL_32 ⟨rfl, rfl, by decide, by decide⟩ dL_joined_5
  (by
    intro xs hxs X σ C k
    obtain ⟨x0, x1, rfl⟩ := kLen2 hxs
    exact (kg_aload_n C dL_joined_0 rfl (kg_iconst C dL_joined_1 (kg_aload_n C dL_joined_2 rfl (kg_iload_n C dL_joined_3 rfl (kg_iload_n C dL_joined_4 rfl k))))))
  (by
    intro X L z σ C hz hr k
    have hz : z = 0 ∨ z = 1 := by simpa [kZ] using hz
    rcases hz with rfl | rfl
    · exact kg_if_eq (tgt := 15) C hr dL_joined_8 (by decide) (kg_lconst C dL_joined_15 (kg_last C dL_joined_16 ⟨by decide, by decide⟩ rfl (kg_goto (tgt := 24) C dL_joined_17 (by decide) k)))
    · exact kg_if_eq (tgt := 15) C hr dL_joined_8 (by decide) (kg_lconst C dL_joined_11 (kg_goto (tgt := 16) C dL_joined_12 (by decide) (kg_last C dL_joined_16 ⟨by decide, by decide⟩ rfl (kg_goto (tgt := 24) C dL_joined_17 (by decide) k)))))
  dL_joined_24 dL_joined_25 hh_joined
def site_two : Nat → Option (String × Int) := fun pc => if pc = 22 then some (eIO, 1) else none
abbrev MT_KP_two : kM := (cX11_two, yX11_two.cls, 3, { frames := 6, cells := 1, slots := 6, locals := 95 }, (some .boolean))
set_option maxRecDepth 20000 in
theorem bt_KP_two : kSt MT_KP_two 0 0 0 0 s_KP_two :=
  (kSt_seq (p1 := 32) (kSt_if (kCd_or (kCd_not (kCd_Z (kE_call (kEs_snoc (kEs_snoc kEs_nil (kE_get (kE_aload_0 dX11_two_0) lf_RX11_16 dX11_two_1)) (kE_iload_1 dX11_two_4)) dX11_two_5 c_Web_hasNode mv_Web_hasNode lm_RX11_129 ⟨rfl, rfl, by decide, by decide⟩ (by decide)) (kZf_1 (tgt := 22) dX11_two_8 (by decide)))) (kCd_not (kCd_Z (kE_call (kEs_snoc (kEs_snoc kEs_nil (kE_get (kE_aload_0 dX11_two_11) lf_RX11_16 dX11_two_12)) (kE_iload_2 dX11_two_15)) dX11_two_16 c_Web_hasNode mv_Web_hasNode lm_RX11_129 ⟨rfl, rfl, by decide, by decide⟩ (by decide)) (kZt_1 (tgt := 32) dX11_two_19 (by decide))))) kSt_throw kSt_skip)
  (kSt_ret (tag := 0) (kE_call (kEs_snoc (kEs_snoc (kEs_snoc kEs_nil (kE_get (kE_aload_0 dX11_two_32) lf_RX11_41 dX11_two_33)) (kE_iload_1 dX11_two_36)) (kE_iload_2 dX11_two_37)) dX11_two_38 c_Twice_together mv_Twice_together lm_RX11_176 ⟨rfl, rfl, by decide, by decide⟩ (by decide)) ⟨fun _ => dX11_two_41, fun q => (by cases q), fun q => (by cases q)⟩))
theorem th_two : ∀ pc E, (site_two pc).map (·.1) = some E → kTh MT_KP_two pc E := by
  intro pc E h
  dsimp only [site_two] at h
  split at h
  · rename_i e; subst e; cases h; exact kTh_S (text := "no such node") rfl tw_136 cl_KP_132 (by decide +kernel) dX11_two_22 dX11_two_25 dX11_two_26 dX11_two_28 dX11_two_31 ⟨by decide, by decide, by decide, by decide⟩
  cases h
theorem cx_two : kConX yX11_two cX11_two 3 (some .boolean) { frames := 6, cells := 1, slots := 6, locals := 95 } 3 kZ (fun pc => (site_two pc).map (·.1)) s_KP_two := kConX_of kEnds_Z (by decide +kernel) (by decide) ⟨rfl, rfl⟩ ⟨0, 0, 0, bt_KP_two⟩ th_two
theorem mvx_two : kMv yX11_two cX11_two 3 (some .boolean) 11 2 := ⟨(ktb4 198 (by decide +kernel) (by decide +kernel)), (ktb4 196 (by decide +kernel) (by decide +kernel)), (ktb4 197 (by decide +kernel) (by decide +kernel)), (ktb1 1 (by decide +kernel) (by decide +kernel)), ⟨_, _, rfl⟩, ⟨by decide +kernel, by decide +kernel⟩, by decide +kernel⟩
theorem lmL_36 : Cond.methodLink RL 36 yX11_two ∈ kTBL := (ktb4 195 (by decide +kernel) (by decide +kernel))
theorem hh_two : ∀ (pc : Nat) (E : String) (k : Int), site_two pc = some (E, k) → kHh (cL_two, yL_two.cls, 5, { frames := 7, cells := 1, slots := 6, locals := 117 }, some .int) 5 [(0, 17, 20, 24)] E k := by
  intro pc E k h
  dsimp only [site_two] at h
  split at h
  · cases h
    exact ⟨⟨by decide, by decide⟩, [], (0, 17, 20, 24), [], 22, rfl, by decide, (fun z hz => by cases hz), by decide +kernel, by decide, cl_L_24, Or.inr ⟨4, dL_two_20, by decide, rfl⟩, dL_two_22, dL_two_23⟩
  cases h
theorem cw_two : kConW yL_two cL_two 5 [(0, 17, 20, 24)] { frames := 7, cells := 1, slots := 6, locals := 117 } 2 s_KP_two kZ site_two := kWr (pE := 24) (by decide +kernel) (by decide) ⟨rfl, rfl⟩ cx_two mvx_two lmL_36 ⟨rfl, rfl, by decide, by decide⟩ dL_two_5
  (by
    intro xs hxs X σ C k
    obtain ⟨x0, x1, rfl⟩ := kLen2 hxs
    exact (kg_aload_n C dL_two_0 rfl (kg_iconst C dL_two_1 (kg_aload_n C dL_two_2 rfl (kg_iload_n C dL_two_3 rfl (kg_iload_n C dL_two_4 rfl k))))))
  (by
    intro X L z σ C hz hr k
    have hz : z = 0 ∨ z = 1 := by simpa [kZ] using hz
    rcases hz with rfl | rfl
    · exact kg_if_eq (tgt := 15) C hr dL_two_8 (by decide) (kg_lconst C dL_two_15 (kg_last C dL_two_16 ⟨by decide, by decide⟩ rfl (kg_goto (tgt := 24) C dL_two_17 (by decide) k)))
    · exact kg_if_eq (tgt := 15) C hr dL_two_8 (by decide) (kg_lconst C dL_two_11 (kg_goto (tgt := 16) C dL_two_12 (by decide) (kg_last C dL_two_16 ⟨by decide, by decide⟩ rfl (kg_goto (tgt := 24) C dL_two_17 (by decide) k)))))
  dL_two_24 dL_two_25 hh_two
def site_of : Nat → Option (String × Int) := fun pc => if pc = 11 then some (eIO, 1) else if pc = 172 then some (eIA, 2) else none
abbrev MT_KP_of : kM := (cX11_of, yX11_of.cls, 3, { frames := 6, cells := 1, slots := 6, locals := 109 }, (some .int))
set_option maxRecDepth 20000 in
theorem bt_KP_of : kSt MT_KP_of 0 0 0 0 s_KP_of :=
  (kSt_seq (p1 := 21) (kSt_if (kCd_not (kCd_Z (kE_call (kEs_snoc (kEs_snoc kEs_nil (kE_get (kE_aload_0 dX11_of_0) lf_RX11_16 dX11_of_1)) (kE_iload_1 dX11_of_4)) dX11_of_5 c_Web_hasNode mv_Web_hasNode lm_RX11_129 ⟨rfl, rfl, by decide, by decide⟩ (by decide)) (kZt_1 (tgt := 21) dX11_of_8 (by decide)))) kSt_throw kSt_skip)
  (kSt_tsw (f := sw_KP_of) (kE_iload_2 dX11_of_21) dX11_of_22 (fun z => by
    unfold sw_KP_of
    by_cases h0 : z = 0
    · subst h0; exact ⟨72, Or.inr ⟨by decide, by decide, 50, rfl, by decide⟩, by
      first | (simp only [reduceIte, Int.reduceEq]; exact (kSt_ret (tag := 0) (kE_call (kEs_snoc (kEs_snoc kEs_nil (kE_get (kE_aload_0 dX11_of_72) lf_RX11_69 dX11_of_73)) (kE_iload_1 dX11_of_76)) dX11_of_77 c_Chosen_weightOf mv_Chosen_weightOf lm_RX11_177 ⟨rfl, rfl, by decide, by decide⟩ (by decide)) ⟨fun _ => dX11_of_80, fun q => (by cases q), fun q => (by cases q)⟩)) | (simp; exact (kSt_ret (tag := 0) (kE_call (kEs_snoc (kEs_snoc kEs_nil (kE_get (kE_aload_0 dX11_of_72) lf_RX11_69 dX11_of_73)) (kE_iload_1 dX11_of_76)) dX11_of_77 c_Chosen_weightOf mv_Chosen_weightOf lm_RX11_177 ⟨rfl, rfl, by decide, by decide⟩ (by decide)) ⟨fun _ => dX11_of_80, fun q => (by cases q), fun q => (by cases q)⟩))⟩
    by_cases h1 : z = 1
    · subst h1; exact ⟨81, Or.inr ⟨by decide, by decide, 59, rfl, by decide⟩, by
      first | (simp only [reduceIte, Int.reduceEq]; exact (kSt_ret (tag := 0) (kE_iald (kE_get (kE_get (kE_aload_0 dX11_of_81) lf_RX11_25 dX11_of_82) lf_RX11_180 dX11_of_85) (kE_iload_1 dX11_of_88) dX11_of_89) ⟨fun _ => dX11_of_90, fun q => (by cases q), fun q => (by cases q)⟩)) | (simp; exact (kSt_ret (tag := 0) (kE_iald (kE_get (kE_get (kE_aload_0 dX11_of_81) lf_RX11_25 dX11_of_82) lf_RX11_180 dX11_of_85) (kE_iload_1 dX11_of_88) dX11_of_89) ⟨fun _ => dX11_of_90, fun q => (by cases q), fun q => (by cases q)⟩))⟩
    by_cases h2 : z = 2
    · subst h2; exact ⟨91, Or.inr ⟨by decide, by decide, 69, rfl, by decide⟩, by
      first | (simp only [reduceIte, Int.reduceEq]; exact (kSt_ret (tag := 0) (kE_call (kEs_snoc (kEs_snoc kEs_nil (kE_get (kE_aload_0 dX11_of_91) lf_RX11_55 dX11_of_92)) (kE_iload_1 dX11_of_95)) dX11_of_96 c_Strong_leastOf mv_Strong_leastOf lm_RX11_183 ⟨rfl, rfl, by decide, by decide⟩ (by decide)) ⟨fun _ => dX11_of_99, fun q => (by cases q), fun q => (by cases q)⟩)) | (simp; exact (kSt_ret (tag := 0) (kE_call (kEs_snoc (kEs_snoc kEs_nil (kE_get (kE_aload_0 dX11_of_91) lf_RX11_55 dX11_of_92)) (kE_iload_1 dX11_of_95)) dX11_of_96 c_Strong_leastOf mv_Strong_leastOf lm_RX11_183 ⟨rfl, rfl, by decide, by decide⟩ (by decide)) ⟨fun _ => dX11_of_99, fun q => (by cases q), fun q => (by cases q)⟩))⟩
    by_cases h3 : z = 3
    · subst h3; exact ⟨100, Or.inr ⟨by decide, by decide, 78, rfl, by decide⟩, by
      first | (simp only [reduceIte, Int.reduceEq]; exact (kSt_ret (tag := 0) (kE_call (kEs_snoc (kEs_snoc kEs_nil (kE_get (kE_aload_0 dX11_of_100) lf_RX11_48 dX11_of_101)) (kE_iload_1 dX11_of_104)) dX11_of_105 c_Row_placeOf mv_Row_placeOf lm_RX11_186 ⟨rfl, rfl, by decide, by decide⟩ (by decide)) ⟨fun _ => dX11_of_108, fun q => (by cases q), fun q => (by cases q)⟩)) | (simp; exact (kSt_ret (tag := 0) (kE_call (kEs_snoc (kEs_snoc kEs_nil (kE_get (kE_aload_0 dX11_of_100) lf_RX11_48 dX11_of_101)) (kE_iload_1 dX11_of_104)) dX11_of_105 c_Row_placeOf mv_Row_placeOf lm_RX11_186 ⟨rfl, rfl, by decide, by decide⟩ (by decide)) ⟨fun _ => dX11_of_108, fun q => (by cases q), fun q => (by cases q)⟩))⟩
    by_cases h4 : z = 4
    · subst h4; exact ⟨109, Or.inr ⟨by decide, by decide, 87, rfl, by decide⟩, by
      first | (simp only [reduceIte, Int.reduceEq]; exact (kSt_ret (tag := 0) (kE_call (kEs_snoc (kEs_snoc kEs_nil (kE_get (kE_aload_0 dX11_of_109) lf_RX11_62 dX11_of_110)) (kE_iload_1 dX11_of_113)) dX11_of_114 c_Sides_coreOf mv_Sides_coreOf lm_RX11_189 ⟨rfl, rfl, by decide, by decide⟩ (by decide)) ⟨fun _ => dX11_of_117, fun q => (by cases q), fun q => (by cases q)⟩)) | (simp; exact (kSt_ret (tag := 0) (kE_call (kEs_snoc (kEs_snoc kEs_nil (kE_get (kE_aload_0 dX11_of_109) lf_RX11_62 dX11_of_110)) (kE_iload_1 dX11_of_113)) dX11_of_114 c_Sides_coreOf mv_Sides_coreOf lm_RX11_189 ⟨rfl, rfl, by decide, by decide⟩ (by decide)) ⟨fun _ => dX11_of_117, fun q => (by cases q), fun q => (by cases q)⟩))⟩
    by_cases h5 : z = 5
    · subst h5; exact ⟨118, Or.inr ⟨by decide, by decide, 96, rfl, by decide⟩, by
      first | (simp only [reduceIte, Int.reduceEq]; exact (kSt_ret (tag := 0) (kE_if (kCd_Z (kE_call (kEs_snoc (kEs_snoc kEs_nil (kE_get (kE_aload_0 dX11_of_118) lf_RX11_69 dX11_of_119)) (kE_iload_1 dX11_of_122)) dX11_of_123 c_Chosen_has mv_Chosen_has lm_RX11_192 ⟨rfl, rfl, by decide, by decide⟩ (by decide)) (kZf_1 (tgt := 133) dX11_of_126 (by decide))) (kE_goto (tgt := 134) (kE_ic_1 dX11_of_129) dX11_of_130 (by decide)) (kE_ic_0 dX11_of_133)) ⟨fun _ => dX11_of_134, fun q => (by cases q), fun q => (by cases q)⟩)) | (simp; exact (kSt_ret (tag := 0) (kE_if (kCd_Z (kE_call (kEs_snoc (kEs_snoc kEs_nil (kE_get (kE_aload_0 dX11_of_118) lf_RX11_69 dX11_of_119)) (kE_iload_1 dX11_of_122)) dX11_of_123 c_Chosen_has mv_Chosen_has lm_RX11_192 ⟨rfl, rfl, by decide, by decide⟩ (by decide)) (kZf_1 (tgt := 133) dX11_of_126 (by decide))) (kE_goto (tgt := 134) (kE_ic_1 dX11_of_129) dX11_of_130 (by decide)) (kE_ic_0 dX11_of_133)) ⟨fun _ => dX11_of_134, fun q => (by cases q), fun q => (by cases q)⟩))⟩
    by_cases h6 : z = 6
    · subst h6; exact ⟨135, Or.inr ⟨by decide, by decide, 113, rfl, by decide⟩, by
      first | (simp only [reduceIte, Int.reduceEq]; exact (kSt_ret (tag := 0) (kE_call (kEs_snoc (kEs_snoc kEs_nil (kE_get (kE_aload_0 dX11_of_135) lf_RX11_62 dX11_of_136)) (kE_iload_1 dX11_of_139)) dX11_of_140 c_Sides_countOf mv_Sides_countOf lm_RX11_195 ⟨rfl, rfl, by decide, by decide⟩ (by decide)) ⟨fun _ => dX11_of_143, fun q => (by cases q), fun q => (by cases q)⟩)) | (simp; exact (kSt_ret (tag := 0) (kE_call (kEs_snoc (kEs_snoc kEs_nil (kE_get (kE_aload_0 dX11_of_135) lf_RX11_62 dX11_of_136)) (kE_iload_1 dX11_of_139)) dX11_of_140 c_Sides_countOf mv_Sides_countOf lm_RX11_195 ⟨rfl, rfl, by decide, by decide⟩ (by decide)) ⟨fun _ => dX11_of_143, fun q => (by cases q), fun q => (by cases q)⟩))⟩
    by_cases h7 : z = 7
    · subst h7; exact ⟨144, Or.inr ⟨by decide, by decide, 122, rfl, by decide⟩, by
      first | (simp only [reduceIte, Int.reduceEq]; exact (kSt_ret (tag := 0) (kE_iald (kE_get (kE_get (kE_aload_0 dX11_of_144) lf_RX11_25 dX11_of_145) lf_RX11_198 dX11_of_148) (kE_iload_1 dX11_of_151) dX11_of_152) ⟨fun _ => dX11_of_153, fun q => (by cases q), fun q => (by cases q)⟩)) | (simp; exact (kSt_ret (tag := 0) (kE_iald (kE_get (kE_get (kE_aload_0 dX11_of_144) lf_RX11_25 dX11_of_145) lf_RX11_198 dX11_of_148) (kE_iload_1 dX11_of_151) dX11_of_152) ⟨fun _ => dX11_of_153, fun q => (by cases q), fun q => (by cases q)⟩))⟩
    by_cases h8 : z = 8
    · subst h8; exact ⟨154, Or.inr ⟨by decide, by decide, 132, rfl, by decide⟩, by
      first | (simp only [reduceIte, Int.reduceEq]; exact (kSt_ret (tag := 0) (kE_if (kCd_C (kE_call (kEs_snoc (kEs_snoc kEs_nil (kE_get (kE_aload_0 dX11_of_154) lf_RX11_34 dX11_of_155)) (kE_iload_1 dX11_of_158)) dX11_of_159 c_OddArcs_leastIn mv_OddArcs_leastIn lm_RX11_201 ⟨rfl, rfl, by decide, by decide⟩ (by decide)) (kE_ic_m1 dX11_of_162) (kJf_0 (tgt := 170) dX11_of_163 (by decide))) (kE_goto (tgt := 171) (kE_ic_1 dX11_of_166) dX11_of_167 (by decide)) (kE_ic_0 dX11_of_170)) ⟨fun _ => dX11_of_171, fun q => (by cases q), fun q => (by cases q)⟩)) | (simp; exact (kSt_ret (tag := 0) (kE_if (kCd_C (kE_call (kEs_snoc (kEs_snoc kEs_nil (kE_get (kE_aload_0 dX11_of_154) lf_RX11_34 dX11_of_155)) (kE_iload_1 dX11_of_158)) dX11_of_159 c_OddArcs_leastIn mv_OddArcs_leastIn lm_RX11_201 ⟨rfl, rfl, by decide, by decide⟩ (by decide)) (kE_ic_m1 dX11_of_162) (kJf_0 (tgt := 170) dX11_of_163 (by decide))) (kE_goto (tgt := 171) (kE_ic_1 dX11_of_166) dX11_of_167 (by decide)) (kE_ic_0 dX11_of_170)) ⟨fun _ => dX11_of_171, fun q => (by cases q), fun q => (by cases q)⟩))⟩
    refine ⟨172, Or.inl ⟨by omega, by decide⟩, ?_⟩
    simp only [h0, h1, h2, h3, h4, h5, h6, h7, h8]; exact kSt_throw)))
theorem th_of : ∀ pc E, (site_of pc).map (·.1) = some E → kTh MT_KP_of pc E := by
  intro pc E h
  dsimp only [site_of] at h
  split at h
  · rename_i e; subst e; cases h; exact kTh_S (text := "no such node") rfl tw_136 cl_KP_132 (by decide +kernel) dX11_of_11 dX11_of_14 dX11_of_15 dX11_of_17 dX11_of_20 ⟨by decide, by decide, by decide, by decide⟩
  split at h
  · rename_i e; subst e; cases h; exact kTh_S (text := "no such what") rfl tw_118 cl_KP_114 (by decide +kernel) dX11_of_172 dX11_of_175 dX11_of_176 dX11_of_178 dX11_of_181 ⟨by decide, by decide, by decide, by decide⟩
  cases h
theorem cx_of : kConX yX11_of cX11_of 3 (some .int) { frames := 6, cells := 1, slots := 6, locals := 109 } 3 kI (fun pc => (site_of pc).map (·.1)) s_KP_of := kConX_of kEnds_I (by decide +kernel) (by decide) ⟨rfl, rfl⟩ ⟨0, 0, 0, bt_KP_of⟩ th_of
theorem mvx_of : kMv yX11_of cX11_of 3 (some .int) 11 2 := ⟨(ktb4 221 (by decide +kernel) (by decide +kernel)), (ktb4 219 (by decide +kernel) (by decide +kernel)), (ktb4 220 (by decide +kernel) (by decide +kernel)), (ktb1 1 (by decide +kernel) (by decide +kernel)), ⟨_, _, rfl⟩, ⟨by decide +kernel, by decide +kernel⟩, by decide +kernel⟩
theorem lmL_39 : Cond.methodLink RL 39 yX11_of ∈ kTBL := (ktb4 218 (by decide +kernel) (by decide +kernel))
theorem hh_of : ∀ (pc : Nat) (E : String) (k : Int), site_of pc = some (E, k) → kHh (cL_of, yL_of.cls, 5, { frames := 7, cells := 1, slots := 6, locals := 131 }, some .int) 5 [(0, 10, 13, 24), (0, 10, 17, 18)] E k := by
  intro pc E k h
  dsimp only [site_of] at h
  split at h
  · cases h
    exact ⟨⟨by decide, by decide⟩, [], (0, 10, 13, 24), [(0, 10, 17, 18)], 15, rfl, by decide, (fun z hz => by cases hz), by decide +kernel, by decide, cl_L_24, Or.inr ⟨4, dL_of_13, by decide, rfl⟩, dL_of_15, dL_of_16⟩
  split at h
  · cases h
    exact ⟨⟨by decide, by decide⟩, [(0, 10, 13, 24)], (0, 10, 17, 18), [], 19, rfl, by decide, (fun z hz => by
      rcases List.mem_cons.mp hz with rfl | hz
      · exact ⟨by decide, eIO, cl_L_24, by decide +kernel⟩
      cases hz), by decide +kernel, by decide, cl_L_18, Or.inr ⟨4, dL_of_17, by decide, rfl⟩, dL_of_19, dL_of_20⟩
  cases h
theorem cw_of : kConW yL_of cL_of 5 [(0, 10, 13, 24), (0, 10, 17, 18)] { frames := 7, cells := 1, slots := 6, locals := 131 } 2 s_KP_of kI site_of := kWr (pE := 21) (by decide +kernel) (by decide) ⟨rfl, rfl⟩ cx_of mvx_of lmL_39 ⟨rfl, rfl, by decide, by decide⟩ dL_of_5
  (by
    intro xs hxs X σ C k
    obtain ⟨x0, x1, rfl⟩ := kLen2 hxs
    exact (kg_aload_n C dL_of_0 rfl (kg_iconst C dL_of_1 (kg_aload_n C dL_of_2 rfl (kg_iload_n C dL_of_3 rfl (kg_iload_n C dL_of_4 rfl k))))))
  (fun X L z σ C hz hr k => kg_i2l C dL_of_8 hr (kg_last C dL_of_9 ⟨by decide, by decide⟩ rfl (kg_goto (tgt := 21) C dL_of_10 (by decide) k)))
  dL_of_21 dL_of_22 hh_of
def site_arc : Nat → Option (String × Int) := fun pc => if pc = 11 then some (eIO, 1) else if pc = 164 then some (eIA, 2) else none
abbrev MT_KP_arc : kM := (cX11_arc, yX11_arc.cls, 3, { frames := 6, cells := 1, slots := 6, locals := 116 }, (some .int))
set_option maxRecDepth 20000 in
theorem bt_KP_arc : kSt MT_KP_arc 0 0 0 0 s_KP_arc :=
  (kSt_seq (p1 := 21) (kSt_if (kCd_not (kCd_Z (kE_call (kEs_snoc (kEs_snoc kEs_nil (kE_get (kE_aload_0 dX11_arc_0) lf_RX11_16 dX11_arc_1)) (kE_iload_1 dX11_arc_4)) dX11_arc_5 c_Web_hasArc mv_Web_hasArc lm_RX11_143 ⟨rfl, rfl, by decide, by decide⟩ (by decide)) (kZt_1 (tgt := 21) dX11_arc_8 (by decide)))) kSt_throw kSt_skip)
  (kSt_tsw (f := sw_KP_arc) (kE_iload_2 dX11_arc_21) dX11_arc_22 (fun z => by
    unfold sw_KP_arc
    by_cases h0 : z = 0
    · subst h0; exact ⟨64, Or.inr ⟨by decide, by decide, 42, rfl, by decide⟩, by
      first | (simp only [reduceIte, Int.reduceEq]; exact (kSt_ret (tag := 0) (kE_iald (kE_get (kE_get (kE_aload_0 dX11_arc_64) lf_RX11_16 dX11_arc_65) lf_RX11_156 dX11_arc_68) (kE_iload_1 dX11_arc_71) dX11_arc_72) ⟨fun _ => dX11_arc_73, fun q => (by cases q), fun q => (by cases q)⟩)) | (simp; exact (kSt_ret (tag := 0) (kE_iald (kE_get (kE_get (kE_aload_0 dX11_arc_64) lf_RX11_16 dX11_arc_65) lf_RX11_156 dX11_arc_68) (kE_iload_1 dX11_arc_71) dX11_arc_72) ⟨fun _ => dX11_arc_73, fun q => (by cases q), fun q => (by cases q)⟩))⟩
    by_cases h1 : z = 1
    · subst h1; exact ⟨74, Or.inr ⟨by decide, by decide, 52, rfl, by decide⟩, by
      first | (simp only [reduceIte, Int.reduceEq]; exact (kSt_ret (tag := 0) (kE_iald (kE_get (kE_get (kE_aload_0 dX11_arc_74) lf_RX11_16 dX11_arc_75) lf_RX11_160 dX11_arc_78) (kE_iload_1 dX11_arc_81) dX11_arc_82) ⟨fun _ => dX11_arc_83, fun q => (by cases q), fun q => (by cases q)⟩)) | (simp; exact (kSt_ret (tag := 0) (kE_iald (kE_get (kE_get (kE_aload_0 dX11_arc_74) lf_RX11_16 dX11_arc_75) lf_RX11_160 dX11_arc_78) (kE_iload_1 dX11_arc_81) dX11_arc_82) ⟨fun _ => dX11_arc_83, fun q => (by cases q), fun q => (by cases q)⟩))⟩
    by_cases h2 : z = 2
    · subst h2; exact ⟨84, Or.inr ⟨by decide, by decide, 62, rfl, by decide⟩, by
      first | (simp only [reduceIte, Int.reduceEq]; exact (kSt_ret (tag := 0) (kE_iald (kE_get (kE_get (kE_aload_0 dX11_arc_84) lf_RX11_25 dX11_arc_85) lf_RX11_206 dX11_arc_88) (kE_iload_1 dX11_arc_91) dX11_arc_92) ⟨fun _ => dX11_arc_93, fun q => (by cases q), fun q => (by cases q)⟩)) | (simp; exact (kSt_ret (tag := 0) (kE_iald (kE_get (kE_get (kE_aload_0 dX11_arc_84) lf_RX11_25 dX11_arc_85) lf_RX11_206 dX11_arc_88) (kE_iload_1 dX11_arc_91) dX11_arc_92) ⟨fun _ => dX11_arc_93, fun q => (by cases q), fun q => (by cases q)⟩))⟩
    by_cases h3 : z = 3
    · subst h3; exact ⟨94, Or.inr ⟨by decide, by decide, 72, rfl, by decide⟩, by
      first | (simp only [reduceIte, Int.reduceEq]; exact (kSt_ret (tag := 0) (kE_if (kCd_Z (kE_zald (kE_get (kE_get (kE_aload_0 dX11_arc_94) lf_RX11_25 dX11_arc_95) lf_RX11_209 dX11_arc_98) (kE_iload_1 dX11_arc_101) dX11_arc_102) (kZf_1 (tgt := 110) dX11_arc_103 (by decide))) (kE_goto (tgt := 111) (kE_ic_1 dX11_arc_106) dX11_arc_107 (by decide)) (kE_ic_0 dX11_arc_110)) ⟨fun _ => dX11_arc_111, fun q => (by cases q), fun q => (by cases q)⟩)) | (simp; exact (kSt_ret (tag := 0) (kE_if (kCd_Z (kE_zald (kE_get (kE_get (kE_aload_0 dX11_arc_94) lf_RX11_25 dX11_arc_95) lf_RX11_209 dX11_arc_98) (kE_iload_1 dX11_arc_101) dX11_arc_102) (kZf_1 (tgt := 110) dX11_arc_103 (by decide))) (kE_goto (tgt := 111) (kE_ic_1 dX11_arc_106) dX11_arc_107 (by decide)) (kE_ic_0 dX11_arc_110)) ⟨fun _ => dX11_arc_111, fun q => (by cases q), fun q => (by cases q)⟩))⟩
    by_cases h4 : z = 4
    · subst h4; exact ⟨112, Or.inr ⟨by decide, by decide, 90, rfl, by decide⟩, by
      first | (simp only [reduceIte, Int.reduceEq]; exact (kSt_ret (tag := 0) (kE_if (kCd_Z (kE_call (kEs_snoc (kEs_snoc kEs_nil (kE_get (kE_aload_0 dX11_arc_112) lf_RX11_34 dX11_arc_113)) (kE_iload_1 dX11_arc_116)) dX11_arc_117 c_OddArcs_has mv_OddArcs_has lm_RX11_213 ⟨rfl, rfl, by decide, by decide⟩ (by decide)) (kZf_1 (tgt := 127) dX11_arc_120 (by decide))) (kE_goto (tgt := 128) (kE_ic_1 dX11_arc_123) dX11_arc_124 (by decide)) (kE_ic_0 dX11_arc_127)) ⟨fun _ => dX11_arc_128, fun q => (by cases q), fun q => (by cases q)⟩)) | (simp; exact (kSt_ret (tag := 0) (kE_if (kCd_Z (kE_call (kEs_snoc (kEs_snoc kEs_nil (kE_get (kE_aload_0 dX11_arc_112) lf_RX11_34 dX11_arc_113)) (kE_iload_1 dX11_arc_116)) dX11_arc_117 c_OddArcs_has mv_OddArcs_has lm_RX11_213 ⟨rfl, rfl, by decide, by decide⟩ (by decide)) (kZf_1 (tgt := 127) dX11_arc_120 (by decide))) (kE_goto (tgt := 128) (kE_ic_1 dX11_arc_123) dX11_arc_124 (by decide)) (kE_ic_0 dX11_arc_127)) ⟨fun _ => dX11_arc_128, fun q => (by cases q), fun q => (by cases q)⟩))⟩
    by_cases h5 : z = 5
    · subst h5; exact ⟨129, Or.inr ⟨by decide, by decide, 107, rfl, by decide⟩, by
      first | (simp only [reduceIte, Int.reduceEq]; exact (kSt_ret (tag := 0) (kE_if (kCd_Z (kE_call (kEs_snoc (kEs_snoc kEs_nil (kE_get (kE_aload_0 dX11_arc_129) lf_RX11_41 dX11_arc_130)) (kE_iload_1 dX11_arc_133)) dX11_arc_134 c_Twice_isBridge mv_Twice_isBridge lm_RX11_214 ⟨rfl, rfl, by decide, by decide⟩ (by decide)) (kZf_1 (tgt := 144) dX11_arc_137 (by decide))) (kE_goto (tgt := 145) (kE_ic_1 dX11_arc_140) dX11_arc_141 (by decide)) (kE_ic_0 dX11_arc_144)) ⟨fun _ => dX11_arc_145, fun q => (by cases q), fun q => (by cases q)⟩)) | (simp; exact (kSt_ret (tag := 0) (kE_if (kCd_Z (kE_call (kEs_snoc (kEs_snoc kEs_nil (kE_get (kE_aload_0 dX11_arc_129) lf_RX11_41 dX11_arc_130)) (kE_iload_1 dX11_arc_133)) dX11_arc_134 c_Twice_isBridge mv_Twice_isBridge lm_RX11_214 ⟨rfl, rfl, by decide, by decide⟩ (by decide)) (kZf_1 (tgt := 144) dX11_arc_137 (by decide))) (kE_goto (tgt := 145) (kE_ic_1 dX11_arc_140) dX11_arc_141 (by decide)) (kE_ic_0 dX11_arc_144)) ⟨fun _ => dX11_arc_145, fun q => (by cases q), fun q => (by cases q)⟩))⟩
    by_cases h6 : z = 6
    · subst h6; exact ⟨146, Or.inr ⟨by decide, by decide, 124, rfl, by decide⟩, by
      first | (simp only [reduceIte, Int.reduceEq]; exact (kSt_ret (tag := 0) (kE_if (kCd_Z (kE_zald (kE_get (kE_get (kE_aload_0 dX11_arc_146) lf_RX11_48 dX11_arc_147) lf_RX11_217 dX11_arc_150) (kE_iload_1 dX11_arc_153) dX11_arc_154) (kZf_1 (tgt := 162) dX11_arc_155 (by decide))) (kE_goto (tgt := 163) (kE_ic_1 dX11_arc_158) dX11_arc_159 (by decide)) (kE_ic_0 dX11_arc_162)) ⟨fun _ => dX11_arc_163, fun q => (by cases q), fun q => (by cases q)⟩)) | (simp; exact (kSt_ret (tag := 0) (kE_if (kCd_Z (kE_zald (kE_get (kE_get (kE_aload_0 dX11_arc_146) lf_RX11_48 dX11_arc_147) lf_RX11_217 dX11_arc_150) (kE_iload_1 dX11_arc_153) dX11_arc_154) (kZf_1 (tgt := 162) dX11_arc_155 (by decide))) (kE_goto (tgt := 163) (kE_ic_1 dX11_arc_158) dX11_arc_159 (by decide)) (kE_ic_0 dX11_arc_162)) ⟨fun _ => dX11_arc_163, fun q => (by cases q), fun q => (by cases q)⟩))⟩
    refine ⟨164, Or.inl ⟨by omega, by decide⟩, ?_⟩
    simp only [h0, h1, h2, h3, h4, h5, h6]; exact kSt_throw)))
theorem th_arc : ∀ pc E, (site_arc pc).map (·.1) = some E → kTh MT_KP_arc pc E := by
  intro pc E h
  dsimp only [site_arc] at h
  split at h
  · rename_i e; subst e; cases h; exact kTh_S (text := "no such arc") rfl tw_136 cl_KP_132 (by decide +kernel) dX11_arc_11 dX11_arc_14 dX11_arc_15 dX11_arc_17 dX11_arc_20 ⟨by decide, by decide, by decide, by decide⟩
  split at h
  · rename_i e; subst e; cases h; exact kTh_S (text := "no such what") rfl tw_118 cl_KP_114 (by decide +kernel) dX11_arc_164 dX11_arc_167 dX11_arc_168 dX11_arc_170 dX11_arc_173 ⟨by decide, by decide, by decide, by decide⟩
  cases h
theorem cx_arc : kConX yX11_arc cX11_arc 3 (some .int) { frames := 6, cells := 1, slots := 6, locals := 116 } 3 kI (fun pc => (site_arc pc).map (·.1)) s_KP_arc := kConX_of kEnds_I (by decide +kernel) (by decide) ⟨rfl, rfl⟩ ⟨0, 0, 0, bt_KP_arc⟩ th_arc
theorem mvx_arc : kMv yX11_arc cX11_arc 3 (some .int) 11 2 := ⟨(ktb5 36 (by decide +kernel) (by decide +kernel)), (ktb5 34 (by decide +kernel) (by decide +kernel)), (ktb5 35 (by decide +kernel) (by decide +kernel)), (ktb1 1 (by decide +kernel) (by decide +kernel)), ⟨_, _, rfl⟩, ⟨by decide +kernel, by decide +kernel⟩, by decide +kernel⟩
theorem lmL_42 : Cond.methodLink RL 42 yX11_arc ∈ kTBL := (ktb5 33 (by decide +kernel) (by decide +kernel))
theorem hh_arc : ∀ (pc : Nat) (E : String) (k : Int), site_arc pc = some (E, k) → kHh (cL_arc, yL_arc.cls, 5, { frames := 7, cells := 1, slots := 6, locals := 138 }, some .int) 5 [(0, 10, 13, 24), (0, 10, 17, 18)] E k := by
  intro pc E k h
  dsimp only [site_arc] at h
  split at h
  · cases h
    exact ⟨⟨by decide, by decide⟩, [], (0, 10, 13, 24), [(0, 10, 17, 18)], 15, rfl, by decide, (fun z hz => by cases hz), by decide +kernel, by decide, cl_L_24, Or.inr ⟨4, dL_arc_13, by decide, rfl⟩, dL_arc_15, dL_arc_16⟩
  split at h
  · cases h
    exact ⟨⟨by decide, by decide⟩, [(0, 10, 13, 24)], (0, 10, 17, 18), [], 19, rfl, by decide, (fun z hz => by
      rcases List.mem_cons.mp hz with rfl | hz
      · exact ⟨by decide, eIO, cl_L_24, by decide +kernel⟩
      cases hz), by decide +kernel, by decide, cl_L_18, Or.inr ⟨4, dL_arc_17, by decide, rfl⟩, dL_arc_19, dL_arc_20⟩
  cases h
theorem cw_arc : kConW yL_arc cL_arc 5 [(0, 10, 13, 24), (0, 10, 17, 18)] { frames := 7, cells := 1, slots := 6, locals := 138 } 2 s_KP_arc kI site_arc := kWr (pE := 21) (by decide +kernel) (by decide) ⟨rfl, rfl⟩ cx_arc mvx_arc lmL_42 ⟨rfl, rfl, by decide, by decide⟩ dL_arc_5
  (by
    intro xs hxs X σ C k
    obtain ⟨x0, x1, rfl⟩ := kLen2 hxs
    exact (kg_aload_n C dL_arc_0 rfl (kg_iconst C dL_arc_1 (kg_aload_n C dL_arc_2 rfl (kg_iload_n C dL_arc_3 rfl (kg_iload_n C dL_arc_4 rfl k))))))
  (fun X L z σ C hz hr k => kg_i2l C dL_arc_8 hr (kg_last C dL_arc_9 ⟨by decide, by decide⟩ rfl (kg_goto (tgt := 21) C dL_arc_10 (by decide) k)))
  dL_arc_21 dL_arc_22 hh_arc
def site_order : Nat → Option (String × Int) := fun pc => if pc = 15 then some (eIO, 1) else none
abbrev MT_KP_order : kM := (cX11_order, yX11_order.cls, 2, { frames := 6, cells := 1, slots := 6, locals := 90 }, (some .int))
set_option maxRecDepth 20000 in
theorem bt_KP_order : kSt MT_KP_order 0 0 0 0 s_KP_order :=
  (kSt_seq (p1 := 25) (kSt_if (kCd_or (kCd_Z (kE_iload_1 dX11_order_0) (kZt_2 (tgt := 15) dX11_order_1 (by decide))) (kCd_C (kE_iload_1 dX11_order_4) (kE_get (kE_get (kE_aload_0 dX11_order_5) lf_RX11_16 dX11_order_6) lf_RX11_96 dX11_order_9) (kJf_3 (tgt := 25) dX11_order_12 (by decide)))) kSt_throw kSt_skip)
  (kSt_ret (tag := 0) (kE_call (kEs_snoc (kEs_snoc kEs_nil (kE_get (kE_aload_0 dX11_order_25) lf_RX11_48 dX11_order_26)) (kE_iload_1 dX11_order_29)) dX11_order_30 c_Row_nodeAt mv_Row_nodeAt lm_RX11_222 ⟨rfl, rfl, by decide, by decide⟩ (by decide)) ⟨fun _ => dX11_order_33, fun q => (by cases q), fun q => (by cases q)⟩))
theorem th_order : ∀ pc E, (site_order pc).map (·.1) = some E → kTh MT_KP_order pc E := by
  intro pc E h
  dsimp only [site_order] at h
  split at h
  · rename_i e; subst e; cases h; exact kTh_S (text := "no such place") rfl tw_136 cl_KP_132 (by decide +kernel) dX11_order_15 dX11_order_18 dX11_order_19 dX11_order_21 dX11_order_24 ⟨by decide, by decide, by decide, by decide⟩
  cases h
theorem cx_order : kConX yX11_order cX11_order 2 (some .int) { frames := 6, cells := 1, slots := 6, locals := 90 } 2 kI (fun pc => (site_order pc).map (·.1)) s_KP_order := kConX_of kEnds_I (by decide +kernel) (by decide) ⟨rfl, rfl⟩ ⟨0, 0, 0, bt_KP_order⟩ th_order
theorem mvx_order : kMv yX11_order cX11_order 2 (some .int) 11 1 := ⟨(ktb5 49 (by decide +kernel) (by decide +kernel)), (ktb5 47 (by decide +kernel) (by decide +kernel)), (ktb5 48 (by decide +kernel) (by decide +kernel)), (ktb1 1 (by decide +kernel) (by decide +kernel)), ⟨_, _, rfl⟩, ⟨by decide +kernel, by decide +kernel⟩, by decide +kernel⟩
theorem lmL_45 : Cond.methodLink RL 45 yX11_order ∈ kTBL := (ktb5 46 (by decide +kernel) (by decide +kernel))
theorem hh_order : ∀ (pc : Nat) (E : String) (k : Int), site_order pc = some (E, k) → kHh (cL_order, yL_order.cls, 4, { frames := 7, cells := 1, slots := 6, locals := 111 }, some .int) 4 [(0, 9, 12, 24)] E k := by
  intro pc E k h
  dsimp only [site_order] at h
  split at h
  · cases h
    exact ⟨⟨by decide, by decide⟩, [], (0, 9, 12, 24), [], 13, rfl, by decide, (fun z hz => by cases hz), by decide +kernel, by decide, cl_L_24, Or.inl ⟨3, dL_order_12, by decide, rfl⟩, dL_order_13, dL_order_14⟩
  cases h
theorem cw_order : kConW yL_order cL_order 4 [(0, 9, 12, 24)] { frames := 7, cells := 1, slots := 6, locals := 111 } 1 s_KP_order kI site_order := kWr (pE := 15) (by decide +kernel) (by decide) ⟨rfl, rfl⟩ cx_order mvx_order lmL_45 ⟨rfl, rfl, by decide, by decide⟩ dL_order_4
  (by
    intro xs hxs X σ C k
    obtain ⟨x0, rfl⟩ := kLen1 hxs
    exact (kg_aload_n C dL_order_0 rfl (kg_iconst C dL_order_1 (kg_aload_n C dL_order_2 rfl (kg_iload_n C dL_order_3 rfl k)))))
  (fun X L z σ C hz hr k => kg_i2l C dL_order_7 hr (kg_last C dL_order_8 ⟨by decide, by decide⟩ rfl (kg_goto (tgt := 15) C dL_order_9 (by decide) k)))
  dL_order_15 dL_order_16 hh_order
def site_odd : Nat → Option (String × Int) := fun pc => if pc = 15 then some (eIO, 1) else none
abbrev MT_KP_odd : kM := (cX11_odd, yX11_odd.cls, 3, { frames := 6, cells := 1, slots := 6, locals := 90 }, (some .int))
set_option maxRecDepth 20000 in
theorem bt_KP_odd : kSt MT_KP_odd 0 0 0 0 s_KP_odd :=
  (kSt_seq (p1 := 25) (kSt_if (kCd_or (kCd_not (kCd_Z (kE_call (kEs_snoc (kEs_snoc kEs_nil (kE_get (kE_aload_0 dX11_odd_0) lf_RX11_16 dX11_odd_1)) (kE_iload_1 dX11_odd_4)) dX11_odd_5 c_Web_hasNode mv_Web_hasNode lm_RX11_129 ⟨rfl, rfl, by decide, by decide⟩ (by decide)) (kZf_1 (tgt := 15) dX11_odd_8 (by decide)))) (kCd_Z (kE_iload_2 dX11_odd_11) (kZf_2 (tgt := 25) dX11_odd_12 (by decide)))) kSt_throw kSt_skip)
  (kSt_ret (tag := 0) (kE_call (kEs_snoc (kEs_snoc (kEs_snoc kEs_nil (kE_get (kE_aload_0 dX11_odd_25) lf_RX11_34 dX11_odd_26)) (kE_iload_1 dX11_odd_29)) (kE_iload_2 dX11_odd_30)) dX11_odd_31 c_OddArcs_ringArc mv_OddArcs_ringArc lm_RX11_227 ⟨rfl, rfl, by decide, by decide⟩ (by decide)) ⟨fun _ => dX11_odd_34, fun q => (by cases q), fun q => (by cases q)⟩))
theorem th_odd : ∀ pc E, (site_odd pc).map (·.1) = some E → kTh MT_KP_odd pc E := by
  intro pc E h
  dsimp only [site_odd] at h
  split at h
  · rename_i e; subst e; cases h; exact kTh_S (text := "no such node, or k is below 0") rfl tw_136 cl_KP_132 (by decide +kernel) dX11_odd_15 dX11_odd_18 dX11_odd_19 dX11_odd_21 dX11_odd_24 ⟨by decide, by decide, by decide, by decide⟩
  cases h
theorem cx_odd : kConX yX11_odd cX11_odd 3 (some .int) { frames := 6, cells := 1, slots := 6, locals := 90 } 3 kI (fun pc => (site_odd pc).map (·.1)) s_KP_odd := kConX_of kEnds_I (by decide +kernel) (by decide) ⟨rfl, rfl⟩ ⟨0, 0, 0, bt_KP_odd⟩ th_odd
theorem mvx_odd : kMv yX11_odd cX11_odd 3 (some .int) 11 2 := ⟨(ktb5 61 (by decide +kernel) (by decide +kernel)), (ktb5 59 (by decide +kernel) (by decide +kernel)), (ktb5 60 (by decide +kernel) (by decide +kernel)), (ktb1 1 (by decide +kernel) (by decide +kernel)), ⟨_, _, rfl⟩, ⟨by decide +kernel, by decide +kernel⟩, by decide +kernel⟩
theorem lmL_48 : Cond.methodLink RL 48 yX11_odd ∈ kTBL := (ktb5 58 (by decide +kernel) (by decide +kernel))
theorem hh_odd : ∀ (pc : Nat) (E : String) (k : Int), site_odd pc = some (E, k) → kHh (cL_odd, yL_odd.cls, 5, { frames := 7, cells := 1, slots := 6, locals := 112 }, some .int) 5 [(0, 10, 13, 24)] E k := by
  intro pc E k h
  dsimp only [site_odd] at h
  split at h
  · cases h
    exact ⟨⟨by decide, by decide⟩, [], (0, 10, 13, 24), [], 15, rfl, by decide, (fun z hz => by cases hz), by decide +kernel, by decide, cl_L_24, Or.inr ⟨4, dL_odd_13, by decide, rfl⟩, dL_odd_15, dL_odd_16⟩
  cases h
theorem cw_odd : kConW yL_odd cL_odd 5 [(0, 10, 13, 24)] { frames := 7, cells := 1, slots := 6, locals := 112 } 2 s_KP_odd kI site_odd := kWr (pE := 17) (by decide +kernel) (by decide) ⟨rfl, rfl⟩ cx_odd mvx_odd lmL_48 ⟨rfl, rfl, by decide, by decide⟩ dL_odd_5
  (by
    intro xs hxs X σ C k
    obtain ⟨x0, x1, rfl⟩ := kLen2 hxs
    exact (kg_aload_n C dL_odd_0 rfl (kg_iconst C dL_odd_1 (kg_aload_n C dL_odd_2 rfl (kg_iload_n C dL_odd_3 rfl (kg_iload_n C dL_odd_4 rfl k))))))
  (fun X L z σ C hz hr k => kg_i2l C dL_odd_8 hr (kg_last C dL_odd_9 ⟨by decide, by decide⟩ rfl (kg_goto (tgt := 17) C dL_odd_10 (by decide) k)))
  dL_odd_17 dL_odd_18 hh_odd
def site_ring : Nat → Option (String × Int) := fun pc => if pc = 4 then some (eIO, 1) else none
abbrev MT_KP_ring : kM := (cX11_ring, yX11_ring.cls, 2, { frames := 6, cells := 1, slots := 6, locals := 90 }, (some .int))
set_option maxRecDepth 20000 in
theorem bt_KP_ring : kSt MT_KP_ring 0 0 0 0 s_KP_ring :=
  (kSt_seq (p1 := 14) (kSt_if (kCd_Z (kE_iload_1 dX11_ring_0) (kZf_2 (tgt := 14) dX11_ring_1 (by decide))) kSt_throw kSt_skip)
  (kSt_ret (tag := 0) (kE_call (kEs_snoc (kEs_snoc kEs_nil (kE_get (kE_aload_0 dX11_ring_14) lf_RX11_48 dX11_ring_15)) (kE_iload_1 dX11_ring_18)) dX11_ring_19 c_Row_ringArc mv_Row_ringArc lm_RX11_232 ⟨rfl, rfl, by decide, by decide⟩ (by decide)) ⟨fun _ => dX11_ring_22, fun q => (by cases q), fun q => (by cases q)⟩))
theorem th_ring : ∀ pc E, (site_ring pc).map (·.1) = some E → kTh MT_KP_ring pc E := by
  intro pc E h
  dsimp only [site_ring] at h
  split at h
  · rename_i e; subst e; cases h; exact kTh_S (text := "k is below 0") rfl tw_136 cl_KP_132 (by decide +kernel) dX11_ring_4 dX11_ring_7 dX11_ring_8 dX11_ring_10 dX11_ring_13 ⟨by decide, by decide, by decide, by decide⟩
  cases h
theorem cx_ring : kConX yX11_ring cX11_ring 2 (some .int) { frames := 6, cells := 1, slots := 6, locals := 90 } 2 kI (fun pc => (site_ring pc).map (·.1)) s_KP_ring := kConX_of kEnds_I (by decide +kernel) (by decide) ⟨rfl, rfl⟩ ⟨0, 0, 0, bt_KP_ring⟩ th_ring
theorem mvx_ring : kMv yX11_ring cX11_ring 2 (some .int) 11 1 := ⟨(ktb5 82 (by decide +kernel) (by decide +kernel)), (ktb5 80 (by decide +kernel) (by decide +kernel)), (ktb5 81 (by decide +kernel) (by decide +kernel)), (ktb1 1 (by decide +kernel) (by decide +kernel)), ⟨_, _, rfl⟩, ⟨by decide +kernel, by decide +kernel⟩, by decide +kernel⟩
theorem lmL_51 : Cond.methodLink RL 51 yX11_ring ∈ kTBL := (ktb5 79 (by decide +kernel) (by decide +kernel))
theorem hh_ring : ∀ (pc : Nat) (E : String) (k : Int), site_ring pc = some (E, k) → kHh (cL_ring, yL_ring.cls, 4, { frames := 7, cells := 1, slots := 6, locals := 111 }, some .int) 4 [(0, 9, 12, 24)] E k := by
  intro pc E k h
  dsimp only [site_ring] at h
  split at h
  · cases h
    exact ⟨⟨by decide, by decide⟩, [], (0, 9, 12, 24), [], 13, rfl, by decide, (fun z hz => by cases hz), by decide +kernel, by decide, cl_L_24, Or.inl ⟨3, dL_ring_12, by decide, rfl⟩, dL_ring_13, dL_ring_14⟩
  cases h
theorem cw_ring : kConW yL_ring cL_ring 4 [(0, 9, 12, 24)] { frames := 7, cells := 1, slots := 6, locals := 111 } 1 s_KP_ring kI site_ring := kWr (pE := 15) (by decide +kernel) (by decide) ⟨rfl, rfl⟩ cx_ring mvx_ring lmL_51 ⟨rfl, rfl, by decide, by decide⟩ dL_ring_4
  (by
    intro xs hxs X σ C k
    obtain ⟨x0, rfl⟩ := kLen1 hxs
    exact (kg_aload_n C dL_ring_0 rfl (kg_iconst C dL_ring_1 (kg_aload_n C dL_ring_2 rfl (kg_iload_n C dL_ring_3 rfl k)))))
  (fun X L z σ C hz hr k => kg_i2l C dL_ring_7 hr (kg_last C dL_ring_8 ⟨by decide, by decide⟩ rfl (kg_goto (tgt := 15) C dL_ring_9 (by decide) k)))
  dL_ring_15 dL_ring_16 hh_ring
def site_planPut : Nat → Option (String × Int) := fun pc => if pc = 22 then some (eIO, 1) else if pc = 42 then some (eUO, 2) else none
abbrev MT_KP_planPut : kM := (cX11_planPut, yX11_planPut.cls, 3, { frames := 6, cells := 1, slots := 6, locals := 90 }, (some .int))
set_option maxRecDepth 20000 in
theorem bt_KP_planPut : kSt MT_KP_planPut 0 0 0 0 s_KP_planPut :=
  (kSt_seq (p1 := 32) (kSt_if (kCd_or (kCd_not (kCd_Z (kE_call (kEs_snoc (kEs_snoc kEs_nil (kE_get (kE_aload_0 dX11_planPut_0) lf_RX11_16 dX11_planPut_1)) (kE_iload_1 dX11_planPut_4)) dX11_planPut_5 c_Web_hasNode mv_Web_hasNode lm_RX11_129 ⟨rfl, rfl, by decide, by decide⟩ (by decide)) (kZf_1 (tgt := 22) dX11_planPut_8 (by decide)))) (kCd_not (kCd_Z (kE_call (kEs_snoc (kEs_snoc kEs_nil (kE_get (kE_aload_0 dX11_planPut_11) lf_RX11_16 dX11_planPut_12)) (kE_iload_2 dX11_planPut_15)) dX11_planPut_16 c_Web_hasNode mv_Web_hasNode lm_RX11_129 ⟨rfl, rfl, by decide, by decide⟩ (by decide)) (kZt_1 (tgt := 32) dX11_planPut_19 (by decide))))) kSt_throw kSt_skip)
  (kSt_seq (p1 := 52) (kSt_if (kCd_Z (kE_call (kEs_snoc kEs_nil (kE_get (kE_aload_0 dX11_planPut_32) lf_RX11_85 dX11_planPut_33)) dX11_planPut_36 c_Plan_isFull mv_Plan_isFull lm_RX11_238 ⟨rfl, rfl, by decide, by decide⟩ (by decide)) (kZf_1 (tgt := 52) dX11_planPut_39 (by decide))) kSt_throw kSt_skip)
  (kSt_ret (tag := 0) (kE_call (kEs_snoc (kEs_snoc (kEs_snoc kEs_nil (kE_get (kE_aload_0 dX11_planPut_52) lf_RX11_85 dX11_planPut_53)) (kE_iload_1 dX11_planPut_56)) (kE_iload_2 dX11_planPut_57)) dX11_planPut_58 c_Plan_addPut mv_Plan_addPut lm_RX11_244 ⟨rfl, rfl, by decide, by decide⟩ (by decide)) ⟨fun _ => dX11_planPut_61, fun q => (by cases q), fun q => (by cases q)⟩)))
theorem th_planPut : ∀ pc E, (site_planPut pc).map (·.1) = some E → kTh MT_KP_planPut pc E := by
  intro pc E h
  dsimp only [site_planPut] at h
  split at h
  · rename_i e; subst e; cases h; exact kTh_S (text := "no such node") rfl tw_136 cl_KP_132 (by decide +kernel) dX11_planPut_22 dX11_planPut_25 dX11_planPut_26 dX11_planPut_28 dX11_planPut_31 ⟨by decide, by decide, by decide, by decide⟩
  split at h
  · rename_i e; subst e; cases h; exact kTh_S (text := "no room for a step") rfl tw_103 cl_KP_99 (by decide +kernel) dX11_planPut_42 dX11_planPut_45 dX11_planPut_46 dX11_planPut_48 dX11_planPut_51 ⟨by decide, by decide, by decide, by decide⟩
  cases h
theorem cx_planPut : kConX yX11_planPut cX11_planPut 3 (some .int) { frames := 6, cells := 1, slots := 6, locals := 90 } 3 kI (fun pc => (site_planPut pc).map (·.1)) s_KP_planPut := kConX_of kEnds_I (by decide +kernel) (by decide) ⟨rfl, rfl⟩ ⟨0, 0, 0, bt_KP_planPut⟩ th_planPut
theorem mvx_planPut : kMv yX11_planPut cX11_planPut 3 (some .int) 11 2 := ⟨(ktb5 94 (by decide +kernel) (by decide +kernel)), (ktb5 92 (by decide +kernel) (by decide +kernel)), (ktb5 93 (by decide +kernel) (by decide +kernel)), (ktb1 1 (by decide +kernel) (by decide +kernel)), ⟨_, _, rfl⟩, ⟨by decide +kernel, by decide +kernel⟩, by decide +kernel⟩
theorem lmL_54 : Cond.methodLink RL 54 yX11_planPut ∈ kTBL := (ktb5 91 (by decide +kernel) (by decide +kernel))
theorem hh_planPut : ∀ (pc : Nat) (E : String) (k : Int), site_planPut pc = some (E, k) → kHh (cL_planPut, yL_planPut.cls, 5, { frames := 7, cells := 1, slots := 6, locals := 112 }, some .int) 5 [(0, 10, 13, 24), (0, 10, 17, 13)] E k := by
  intro pc E k h
  dsimp only [site_planPut] at h
  split at h
  · cases h
    exact ⟨⟨by decide, by decide⟩, [], (0, 10, 13, 24), [(0, 10, 17, 13)], 15, rfl, by decide, (fun z hz => by cases hz), by decide +kernel, by decide, cl_L_24, Or.inr ⟨4, dL_planPut_13, by decide, rfl⟩, dL_planPut_15, dL_planPut_16⟩
  split at h
  · cases h
    exact ⟨⟨by decide, by decide⟩, [(0, 10, 13, 24)], (0, 10, 17, 13), [], 19, rfl, by decide, (fun z hz => by
      rcases List.mem_cons.mp hz with rfl | hz
      · exact ⟨by decide, eIO, cl_L_24, by decide +kernel⟩
      cases hz), by decide +kernel, by decide, cl_L_13, Or.inr ⟨4, dL_planPut_17, by decide, rfl⟩, dL_planPut_19, dL_planPut_20⟩
  cases h
theorem cw_planPut : kConW yL_planPut cL_planPut 5 [(0, 10, 13, 24), (0, 10, 17, 13)] { frames := 7, cells := 1, slots := 6, locals := 112 } 2 s_KP_planPut kI site_planPut := kWr (pE := 21) (by decide +kernel) (by decide) ⟨rfl, rfl⟩ cx_planPut mvx_planPut lmL_54 ⟨rfl, rfl, by decide, by decide⟩ dL_planPut_5
  (by
    intro xs hxs X σ C k
    obtain ⟨x0, x1, rfl⟩ := kLen2 hxs
    exact (kg_aload_n C dL_planPut_0 rfl (kg_iconst C dL_planPut_1 (kg_aload_n C dL_planPut_2 rfl (kg_iload_n C dL_planPut_3 rfl (kg_iload_n C dL_planPut_4 rfl k))))))
  (fun X L z σ C hz hr k => kg_i2l C dL_planPut_8 hr (kg_last C dL_planPut_9 ⟨by decide, by decide⟩ rfl (kg_goto (tgt := 21) C dL_planPut_10 (by decide) k)))
  dL_planPut_21 dL_planPut_22 hh_planPut
def site_planTake : Nat → Option (String × Int) := fun pc => if pc = 24 then some (eIO, 1) else if pc = 45 then some (eIS, 2) else if pc = 66 then some (eUO, 3) else none
abbrev MT_KP_planTake : kM := (cX11_planTake, yX11_planTake.cls, 2, { frames := 6, cells := 1, slots := 6, locals := 90 }, (some .int))
set_option maxRecDepth 20000 in
theorem bt_KP_planTake : kSt MT_KP_planTake 0 0 0 0 s_KP_planTake :=
  (kSt_seq (p1 := 34) (kSt_if (kCd_and (kCd_not (kCd_Z (kE_call (kEs_snoc (kEs_snoc kEs_nil (kE_get (kE_aload_0 dX11_planTake_0) lf_RX11_16 dX11_planTake_1)) (kE_iload_1 dX11_planTake_4)) dX11_planTake_5 c_Web_hasArc mv_Web_hasArc lm_RX11_143 ⟨rfl, rfl, by decide, by decide⟩ (by decide)) (kZt_1 (tgt := 34) dX11_planTake_8 (by decide)))) (kCd_not (kCd_Z (kE_call (kEs_snoc (kEs_snoc kEs_nil (kE_get (kE_aload_0 dX11_planTake_11) lf_RX11_85 dX11_planTake_12)) (kE_bin (kE_ic_m1 dX11_planTake_15) (kE_iload_1 dX11_planTake_16) (kOp_sub dX11_planTake_17))) dX11_planTake_18 c_Plan_puts mv_Plan_puts lm_RX11_247 ⟨rfl, rfl, by decide, by decide⟩ (by decide)) (kZt_1 (tgt := 34) dX11_planTake_21 (by decide))))) kSt_throw kSt_skip)
  (kSt_seq (p1 := 56) (kSt_if (kCd_Z (kE_call (kEs_snoc (kEs_snoc kEs_nil (kE_get (kE_aload_0 dX11_planTake_34) lf_RX11_85 dX11_planTake_35)) (kE_iload_1 dX11_planTake_38)) dX11_planTake_39 c_Plan_takes mv_Plan_takes lm_RX11_252 ⟨rfl, rfl, by decide, by decide⟩ (by decide)) (kZf_1 (tgt := 56) dX11_planTake_42 (by decide))) kSt_throw kSt_skip)
  (kSt_seq (p1 := 76) (kSt_if (kCd_Z (kE_call (kEs_snoc kEs_nil (kE_get (kE_aload_0 dX11_planTake_56) lf_RX11_85 dX11_planTake_57)) dX11_planTake_60 c_Plan_isFull mv_Plan_isFull lm_RX11_238 ⟨rfl, rfl, by decide, by decide⟩ (by decide)) (kZf_1 (tgt := 76) dX11_planTake_63 (by decide))) kSt_throw kSt_skip)
  (kSt_ret (tag := 0) (kE_call (kEs_snoc (kEs_snoc kEs_nil (kE_get (kE_aload_0 dX11_planTake_76) lf_RX11_85 dX11_planTake_77)) (kE_iload_1 dX11_planTake_80)) dX11_planTake_81 c_Plan_addTake mv_Plan_addTake lm_RX11_260 ⟨rfl, rfl, by decide, by decide⟩ (by decide)) ⟨fun _ => dX11_planTake_84, fun q => (by cases q), fun q => (by cases q)⟩))))
theorem cl_KP_255 : Cond.classLink RX11 255 eIS ∈ kTBL := (ktb5 121 (by decide +kernel) (by decide +kernel))
theorem th_planTake : ∀ pc E, (site_planTake pc).map (·.1) = some E → kTh MT_KP_planTake pc E := by
  intro pc E h
  dsimp only [site_planTake] at h
  split at h
  · rename_i e; subst e; cases h; exact kTh_S (text := "no such arc, or no such step that puts one") rfl tw_136 cl_KP_132 (by decide +kernel) dX11_planTake_24 dX11_planTake_27 dX11_planTake_28 dX11_planTake_30 dX11_planTake_33 ⟨by decide, by decide, by decide, by decide⟩
  split at h
  · rename_i e; subst e; cases h; exact kTh_SW (text := "a step ahead takes it already") rfl tw_259 cl_KP_255 (by decide +kernel) dX11_planTake_45 dX11_planTake_48 dX11_planTake_49 dX11_planTake_52 dX11_planTake_55 ⟨by decide, by decide, by decide, by decide⟩
  split at h
  · rename_i e; subst e; cases h; exact kTh_S (text := "no room for a step") rfl tw_103 cl_KP_99 (by decide +kernel) dX11_planTake_66 dX11_planTake_69 dX11_planTake_70 dX11_planTake_72 dX11_planTake_75 ⟨by decide, by decide, by decide, by decide⟩
  cases h
theorem cx_planTake : kConX yX11_planTake cX11_planTake 2 (some .int) { frames := 6, cells := 1, slots := 6, locals := 90 } 2 kI (fun pc => (site_planTake pc).map (·.1)) s_KP_planTake := kConX_of kEnds_I (by decide +kernel) (by decide) ⟨rfl, rfl⟩ ⟨0, 0, 0, bt_KP_planTake⟩ th_planTake
theorem mvx_planTake : kMv yX11_planTake cX11_planTake 2 (some .int) 11 1 := ⟨(ktb5 111 (by decide +kernel) (by decide +kernel)), (ktb5 109 (by decide +kernel) (by decide +kernel)), (ktb5 110 (by decide +kernel) (by decide +kernel)), (ktb1 1 (by decide +kernel) (by decide +kernel)), ⟨_, _, rfl⟩, ⟨by decide +kernel, by decide +kernel⟩, by decide +kernel⟩
theorem lmL_57 : Cond.methodLink RL 57 yX11_planTake ∈ kTBL := (ktb5 108 (by decide +kernel) (by decide +kernel))
theorem cl_L_60 : Cond.classLink RL 60 eIS ∈ kTBL := (ktb5 107 (by decide +kernel) (by decide +kernel))
theorem hh_planTake : ∀ (pc : Nat) (E : String) (k : Int), site_planTake pc = some (E, k) → kHh (cL_planTake, yL_planTake.cls, 4, { frames := 7, cells := 1, slots := 6, locals := 111 }, some .int) 4 [(0, 9, 12, 24), (0, 9, 15, 60), (0, 9, 18, 13)] E k := by
  intro pc E k h
  dsimp only [site_planTake] at h
  split at h
  · cases h
    exact ⟨⟨by decide, by decide⟩, [], (0, 9, 12, 24), [(0, 9, 15, 60), (0, 9, 18, 13)], 13, rfl, by decide, (fun z hz => by cases hz), by decide +kernel, by decide, cl_L_24, Or.inl ⟨3, dL_planTake_12, by decide, rfl⟩, dL_planTake_13, dL_planTake_14⟩
  split at h
  · cases h
    exact ⟨⟨by decide, by decide⟩, [(0, 9, 12, 24)], (0, 9, 15, 60), [(0, 9, 18, 13)], 16, rfl, by decide, (fun z hz => by
      rcases List.mem_cons.mp hz with rfl | hz
      · exact ⟨by decide, eIO, cl_L_24, by decide +kernel⟩
      cases hz), by decide +kernel, by decide, cl_L_60, Or.inl ⟨3, dL_planTake_15, by decide, rfl⟩, dL_planTake_16, dL_planTake_17⟩
  split at h
  · cases h
    exact ⟨⟨by decide, by decide⟩, [(0, 9, 12, 24), (0, 9, 15, 60)], (0, 9, 18, 13), [], 19, rfl, by decide, (fun z hz => by
      rcases List.mem_cons.mp hz with rfl | hz
      · exact ⟨by decide, eIO, cl_L_24, by decide +kernel⟩
      rcases List.mem_cons.mp hz with rfl | hz
      · exact ⟨by decide, eIS, cl_L_60, by decide +kernel⟩
      cases hz), by decide +kernel, by decide, cl_L_13, Or.inl ⟨3, dL_planTake_18, by decide, rfl⟩, dL_planTake_19, dL_planTake_20⟩
  cases h
theorem cw_planTake : kConW yL_planTake cL_planTake 4 [(0, 9, 12, 24), (0, 9, 15, 60), (0, 9, 18, 13)] { frames := 7, cells := 1, slots := 6, locals := 111 } 1 s_KP_planTake kI site_planTake := kWr (pE := 21) (by decide +kernel) (by decide) ⟨rfl, rfl⟩ cx_planTake mvx_planTake lmL_57 ⟨rfl, rfl, by decide, by decide⟩ dL_planTake_4
  (by
    intro xs hxs X σ C k
    obtain ⟨x0, rfl⟩ := kLen1 hxs
    exact (kg_aload_n C dL_planTake_0 rfl (kg_iconst C dL_planTake_1 (kg_aload_n C dL_planTake_2 rfl (kg_iload_n C dL_planTake_3 rfl k)))))
  (fun X L z σ C hz hr k => kg_i2l C dL_planTake_7 hr (kg_last C dL_planTake_8 ⟨by decide, by decide⟩ rfl (kg_goto (tgt := 21) C dL_planTake_9 (by decide) k)))
  dL_planTake_21 dL_planTake_22 hh_planTake
def site_later : Nat → Option (String × Int) := fun pc => if pc = 15 then some (eIO, 1) else if pc = 101 then some (eIA, 2) else none
abbrev MT_KP_later : kM := (cX11_later, yX11_later.cls, 3, { frames := 6, cells := 1, slots := 6, locals := 93 }, (some .int))
set_option maxRecDepth 20000 in
theorem bt_KP_later : kSt MT_KP_later 0 0 0 0 s_KP_later :=
  (kSt_seq (p1 := 26) (kSt_if (kCd_or (kCd_Z (kE_iload_1 dX11_later_0) (kZt_2 (tgt := 15) dX11_later_1 (by decide))) (kCd_C (kE_iload_1 dX11_later_4) (kE_get (kE_get (kE_aload_0 dX11_later_5) lf_RX11_85 dX11_later_6) lf_RX11_263 dX11_later_9) (kJf_4 (tgt := 26) dX11_later_12 (by decide)))) kSt_throw kSt_skip)
  (kSt_tsw (f := sw_KP_later) (kE_iload_2 dX11_later_26) dX11_later_27 (fun z => by
    unfold sw_KP_later
    by_cases h0 : z = 0
    · subst h0; exact ⟨56, Or.inr ⟨by decide, by decide, 29, rfl, by decide⟩, by
      first | (simp only [reduceIte, Int.reduceEq]; exact (kSt_ret (tag := 0) (kE_get (kE_call (kEs_snoc (kEs_snoc kEs_nil (kE_get (kE_aload_0 dX11_later_56) lf_RX11_85 dX11_later_57)) (kE_iload_1 dX11_later_60)) dX11_later_61 c_Plan_behind mv_Plan_behind lm_RX11_268 ⟨rfl, rfl, by decide, by decide⟩ (by decide)) lf_RX11_272 dX11_later_64) ⟨fun _ => dX11_later_67, fun q => (by cases q), fun q => (by cases q)⟩)) | (simp; exact (kSt_ret (tag := 0) (kE_get (kE_call (kEs_snoc (kEs_snoc kEs_nil (kE_get (kE_aload_0 dX11_later_56) lf_RX11_85 dX11_later_57)) (kE_iload_1 dX11_later_60)) dX11_later_61 c_Plan_behind mv_Plan_behind lm_RX11_268 ⟨rfl, rfl, by decide, by decide⟩ (by decide)) lf_RX11_272 dX11_later_64) ⟨fun _ => dX11_later_67, fun q => (by cases q), fun q => (by cases q)⟩))⟩
    by_cases h1 : z = 1
    · subst h1; exact ⟨68, Or.inr ⟨by decide, by decide, 41, rfl, by decide⟩, by
      first | (simp only [reduceIte, Int.reduceEq]; exact (kSt_ret (tag := 0) (kE_get (kE_call (kEs_snoc (kEs_snoc kEs_nil (kE_get (kE_aload_0 dX11_later_68) lf_RX11_85 dX11_later_69)) (kE_iload_1 dX11_later_72)) dX11_later_73 c_Plan_behind mv_Plan_behind lm_RX11_268 ⟨rfl, rfl, by decide, by decide⟩ (by decide)) lf_RX11_274 dX11_later_76) ⟨fun _ => dX11_later_79, fun q => (by cases q), fun q => (by cases q)⟩)) | (simp; exact (kSt_ret (tag := 0) (kE_get (kE_call (kEs_snoc (kEs_snoc kEs_nil (kE_get (kE_aload_0 dX11_later_68) lf_RX11_85 dX11_later_69)) (kE_iload_1 dX11_later_72)) dX11_later_73 c_Plan_behind mv_Plan_behind lm_RX11_268 ⟨rfl, rfl, by decide, by decide⟩ (by decide)) lf_RX11_274 dX11_later_76) ⟨fun _ => dX11_later_79, fun q => (by cases q), fun q => (by cases q)⟩))⟩
    by_cases h2 : z = 2
    · subst h2; exact ⟨80, Or.inr ⟨by decide, by decide, 53, rfl, by decide⟩, by
      first | (simp only [reduceIte, Int.reduceEq]; exact (kSt_ret (tag := 0) (kE_get (kE_call (kEs_snoc (kEs_snoc kEs_nil (kE_get (kE_aload_0 dX11_later_80) lf_RX11_85 dX11_later_81)) (kE_iload_1 dX11_later_84)) dX11_later_85 c_Plan_behind mv_Plan_behind lm_RX11_268 ⟨rfl, rfl, by decide, by decide⟩ (by decide)) lf_RX11_277 dX11_later_88) ⟨fun _ => dX11_later_91, fun q => (by cases q), fun q => (by cases q)⟩)) | (simp; exact (kSt_ret (tag := 0) (kE_get (kE_call (kEs_snoc (kEs_snoc kEs_nil (kE_get (kE_aload_0 dX11_later_80) lf_RX11_85 dX11_later_81)) (kE_iload_1 dX11_later_84)) dX11_later_85 c_Plan_behind mv_Plan_behind lm_RX11_268 ⟨rfl, rfl, by decide, by decide⟩ (by decide)) lf_RX11_277 dX11_later_88) ⟨fun _ => dX11_later_91, fun q => (by cases q), fun q => (by cases q)⟩))⟩
    by_cases h3 : z = 3
    · subst h3; exact ⟨92, Or.inr ⟨by decide, by decide, 65, rfl, by decide⟩, by
      first | (simp only [reduceIte, Int.reduceEq]; exact (kSt_ret (tag := 0) (kE_call (kEs_snoc (kEs_snoc kEs_nil (kE_get (kE_aload_0 dX11_later_92) lf_RX11_85 dX11_later_93)) (kE_iload_1 dX11_later_96)) dX11_later_97 c_Plan_arcsBehind mv_Plan_arcsBehind lm_RX11_280 ⟨rfl, rfl, by decide, by decide⟩ (by decide)) ⟨fun _ => dX11_later_100, fun q => (by cases q), fun q => (by cases q)⟩)) | (simp; exact (kSt_ret (tag := 0) (kE_call (kEs_snoc (kEs_snoc kEs_nil (kE_get (kE_aload_0 dX11_later_92) lf_RX11_85 dX11_later_93)) (kE_iload_1 dX11_later_96)) dX11_later_97 c_Plan_arcsBehind mv_Plan_arcsBehind lm_RX11_280 ⟨rfl, rfl, by decide, by decide⟩ (by decide)) ⟨fun _ => dX11_later_100, fun q => (by cases q), fun q => (by cases q)⟩))⟩
    refine ⟨101, Or.inl ⟨by omega, by decide⟩, ?_⟩
    simp only [h0, h1, h2, h3]; exact kSt_throw)))
theorem th_later : ∀ pc E, (site_later pc).map (·.1) = some E → kTh MT_KP_later pc E := by
  intro pc E h
  dsimp only [site_later] at h
  split at h
  · rename_i e; subst e; cases h; exact kTh_SW (text := "not so many steps") rfl tw_136 cl_KP_132 (by decide +kernel) dX11_later_15 dX11_later_18 dX11_later_19 dX11_later_22 dX11_later_25 ⟨by decide, by decide, by decide, by decide⟩
  split at h
  · rename_i e; subst e; cases h; exact kTh_S (text := "no such what") rfl tw_118 cl_KP_114 (by decide +kernel) dX11_later_101 dX11_later_104 dX11_later_105 dX11_later_107 dX11_later_110 ⟨by decide, by decide, by decide, by decide⟩
  cases h
theorem cx_later : kConX yX11_later cX11_later 3 (some .int) { frames := 6, cells := 1, slots := 6, locals := 93 } 3 kI (fun pc => (site_later pc).map (·.1)) s_KP_later := kConX_of kEnds_I (by decide +kernel) (by decide) ⟨rfl, rfl⟩ ⟨0, 0, 0, bt_KP_later⟩ th_later
theorem mvx_later : kMv yX11_later cX11_later 3 (some .int) 11 2 := ⟨(ktb5 147 (by decide +kernel) (by decide +kernel)), (ktb5 145 (by decide +kernel) (by decide +kernel)), (ktb5 146 (by decide +kernel) (by decide +kernel)), (ktb1 1 (by decide +kernel) (by decide +kernel)), ⟨_, _, rfl⟩, ⟨by decide +kernel, by decide +kernel⟩, by decide +kernel⟩
theorem lmL_62 : Cond.methodLink RL 62 yX11_later ∈ kTBL := (ktb5 144 (by decide +kernel) (by decide +kernel))
theorem hh_later : ∀ (pc : Nat) (E : String) (k : Int), site_later pc = some (E, k) → kHh (cL_later, yL_later.cls, 5, { frames := 7, cells := 1, slots := 6, locals := 115 }, some .int) 5 [(0, 10, 13, 24), (0, 10, 17, 18)] E k := by
  intro pc E k h
  dsimp only [site_later] at h
  split at h
  · cases h
    exact ⟨⟨by decide, by decide⟩, [], (0, 10, 13, 24), [(0, 10, 17, 18)], 15, rfl, by decide, (fun z hz => by cases hz), by decide +kernel, by decide, cl_L_24, Or.inr ⟨4, dL_later_13, by decide, rfl⟩, dL_later_15, dL_later_16⟩
  split at h
  · cases h
    exact ⟨⟨by decide, by decide⟩, [(0, 10, 13, 24)], (0, 10, 17, 18), [], 19, rfl, by decide, (fun z hz => by
      rcases List.mem_cons.mp hz with rfl | hz
      · exact ⟨by decide, eIO, cl_L_24, by decide +kernel⟩
      cases hz), by decide +kernel, by decide, cl_L_18, Or.inr ⟨4, dL_later_17, by decide, rfl⟩, dL_later_19, dL_later_20⟩
  cases h
theorem cw_later : kConW yL_later cL_later 5 [(0, 10, 13, 24), (0, 10, 17, 18)] { frames := 7, cells := 1, slots := 6, locals := 115 } 2 s_KP_later kI site_later := kWr (pE := 21) (by decide +kernel) (by decide) ⟨rfl, rfl⟩ cx_later mvx_later lmL_62 ⟨rfl, rfl, by decide, by decide⟩ dL_later_5
  (by
    intro xs hxs X σ C k
    obtain ⟨x0, x1, rfl⟩ := kLen2 hxs
    exact (kg_aload_n C dL_later_0 rfl (kg_iconst C dL_later_1 (kg_aload_n C dL_later_2 rfl (kg_iload_n C dL_later_3 rfl (kg_iload_n C dL_later_4 rfl k))))))
  (fun X L z σ C hz hr k => kg_i2l C dL_later_8 hr (kg_last C dL_later_9 ⟨by decide, by decide⟩ rfl (kg_goto (tgt := 21) C dL_later_10 (by decide) k)))
  dL_later_21 dL_later_22 hh_later
def site_laterJoined : Nat → Option (String × Int) := fun pc => if pc = 37 then some (eIO, 1) else none
abbrev MT_KP_laterJoined : kM := (cX11_laterJoined, yX11_laterJoined.cls, 4, { frames := 6, cells := 1, slots := 6, locals := 93 }, (some .boolean))
set_option maxRecDepth 20000 in
theorem bt_KP_laterJoined : kSt MT_KP_laterJoined 0 0 0 0 s_KP_laterJoined :=
  (kSt_seq (p1 := 48) (kSt_if (kCd_or (kCd_or (kCd_or (kCd_Z (kE_iload_1 dX11_laterJoined_0) (kZt_2 (tgt := 37) dX11_laterJoined_1 (by decide))) (kCd_C (kE_iload_1 dX11_laterJoined_4) (kE_get (kE_get (kE_aload_0 dX11_laterJoined_5) lf_RX11_85 dX11_laterJoined_6) lf_RX11_263 dX11_laterJoined_9) (kJt_4 (tgt := 37) dX11_laterJoined_12 (by decide)))) (kCd_not (kCd_Z (kE_call (kEs_snoc (kEs_snoc kEs_nil (kE_get (kE_aload_0 dX11_laterJoined_15) lf_RX11_16 dX11_laterJoined_16)) (kE_iload_2 dX11_laterJoined_19)) dX11_laterJoined_20 c_Web_hasNode mv_Web_hasNode lm_RX11_129 ⟨rfl, rfl, by decide, by decide⟩ (by decide)) (kZf_1 (tgt := 37) dX11_laterJoined_23 (by decide))))) (kCd_not (kCd_Z (kE_call (kEs_snoc (kEs_snoc kEs_nil (kE_get (kE_aload_0 dX11_laterJoined_26) lf_RX11_16 dX11_laterJoined_27)) (kE_iload_3 dX11_laterJoined_30)) dX11_laterJoined_31 c_Web_hasNode mv_Web_hasNode lm_RX11_129 ⟨rfl, rfl, by decide, by decide⟩ (by decide)) (kZt_1 (tgt := 48) dX11_laterJoined_34 (by decide))))) kSt_throw kSt_skip)
  (kSt_ret (tag := 0) (kE_call (kEs_snoc (kEs_snoc (kEs_snoc kEs_nil (kE_call (kEs_snoc (kEs_snoc kEs_nil (kE_get (kE_aload_0 dX11_laterJoined_48) lf_RX11_85 dX11_laterJoined_49)) (kE_iload_1 dX11_laterJoined_52)) dX11_laterJoined_53 c_Plan_behind mv_Plan_behind lm_RX11_268 ⟨rfl, rfl, by decide, by decide⟩ (by decide))) (kE_iload_2 dX11_laterJoined_56)) (kE_iload_3 dX11_laterJoined_57)) dX11_laterJoined_58 c_Joiner_together mv_Joiner_together lm_RX11_285 ⟨rfl, rfl, by decide, by decide⟩ (by decide)) ⟨fun _ => dX11_laterJoined_61, fun q => (by cases q), fun q => (by cases q)⟩))
theorem th_laterJoined : ∀ pc E, (site_laterJoined pc).map (·.1) = some E → kTh MT_KP_laterJoined pc E := by
  intro pc E h
  dsimp only [site_laterJoined] at h
  split at h
  · rename_i e; subst e; cases h; exact kTh_SW (text := "not so many steps, or no such node") rfl tw_136 cl_KP_132 (by decide +kernel) dX11_laterJoined_37 dX11_laterJoined_40 dX11_laterJoined_41 dX11_laterJoined_44 dX11_laterJoined_47 ⟨by decide, by decide, by decide, by decide⟩
  cases h
theorem cx_laterJoined : kConX yX11_laterJoined cX11_laterJoined 4 (some .boolean) { frames := 6, cells := 1, slots := 6, locals := 93 } 4 kZ (fun pc => (site_laterJoined pc).map (·.1)) s_KP_laterJoined := kConX_of kEnds_Z (by decide +kernel) (by decide) ⟨rfl, rfl⟩ ⟨0, 0, 0, bt_KP_laterJoined⟩ th_laterJoined
theorem mvx_laterJoined : kMv yX11_laterJoined cX11_laterJoined 4 (some .boolean) 11 3 := ⟨(ktb5 169 (by decide +kernel) (by decide +kernel)), (ktb5 167 (by decide +kernel) (by decide +kernel)), (ktb5 168 (by decide +kernel) (by decide +kernel)), (ktb1 1 (by decide +kernel) (by decide +kernel)), ⟨_, _, rfl⟩, ⟨by decide +kernel, by decide +kernel⟩, by decide +kernel⟩
theorem lmL_65 : Cond.methodLink RL 65 yX11_laterJoined ∈ kTBL := (ktb5 166 (by decide +kernel) (by decide +kernel))
theorem hh_laterJoined : ∀ (pc : Nat) (E : String) (k : Int), site_laterJoined pc = some (E, k) → kHh (cL_laterJoined, yL_laterJoined.cls, 6, { frames := 7, cells := 1, slots := 6, locals := 116 }, some .int) 7 [(0, 19, 22, 24)] E k := by
  intro pc E k h
  dsimp only [site_laterJoined] at h
  split at h
  · cases h
    exact ⟨⟨by decide, by decide⟩, [], (0, 19, 22, 24), [], 24, rfl, by decide, (fun z hz => by cases hz), by decide +kernel, by decide, cl_L_24, Or.inr ⟨5, dL_laterJoined_22, by decide, rfl⟩, dL_laterJoined_24, dL_laterJoined_25⟩
  cases h
theorem cw_laterJoined : kConW yL_laterJoined cL_laterJoined 6 [(0, 19, 22, 24)] { frames := 7, cells := 1, slots := 6, locals := 116 } 3 s_KP_laterJoined kZ site_laterJoined := kWr (pE := 26) (by decide +kernel) (by decide) ⟨rfl, rfl⟩ cx_laterJoined mvx_laterJoined lmL_65 ⟨rfl, rfl, by decide, by decide⟩ dL_laterJoined_7
  (by
    intro xs hxs X σ C k
    obtain ⟨x0, x1, x2, rfl⟩ := kLen3 hxs
    exact (kg_aload C dL_laterJoined_0 rfl (kg_iconst C dL_laterJoined_2 (kg_aload_n C dL_laterJoined_3 rfl (kg_iload_n C dL_laterJoined_4 rfl (kg_iload_n C dL_laterJoined_5 rfl (kg_iload_n C dL_laterJoined_6 rfl k)))))))
  (by
    intro X L z σ C hz hr k
    have hz : z = 0 ∨ z = 1 := by simpa [kZ] using hz
    rcases hz with rfl | rfl
    · exact kg_if_eq (tgt := 17) C hr dL_laterJoined_10 (by decide) (kg_lconst C dL_laterJoined_17 (kg_last C dL_laterJoined_18 ⟨by decide, by decide⟩ rfl (kg_goto (tgt := 26) C dL_laterJoined_19 (by decide) k)))
    · exact kg_if_eq (tgt := 17) C hr dL_laterJoined_10 (by decide) (kg_lconst C dL_laterJoined_13 (kg_goto (tgt := 18) C dL_laterJoined_14 (by decide) (kg_last C dL_laterJoined_18 ⟨by decide, by decide⟩ rfl (kg_goto (tgt := 26) C dL_laterJoined_19 (by decide) k)))))
  dL_laterJoined_26 dL_laterJoined_27 hh_laterJoined
def site_told : Nat → Option (String × Int) := fun pc => if pc = 169 then some (eIA, 1) else none
abbrev MT_KP_told : kM := (cX11_told, yX11_told.cls, 2, { frames := 6, cells := 1, slots := 6, locals := 138 }, (some .int))
set_option maxRecDepth 20000 in
theorem bt_KP_told : kSt MT_KP_told 0 0 0 0 s_KP_told :=
  (kSt_tsw (f := sw_KP_told) (kE_iload_1 dX11_told_0) dX11_told_1 (fun z => by
    unfold sw_KP_told
    by_cases h0 : z = 0
    · subst h0; exact ⟨68, Or.inr ⟨by decide, by decide, 67, rfl, by decide⟩, by
      first | (simp only [reduceIte, Int.reduceEq]; exact (kSt_ret (tag := 0) (kE_get (kE_get (kE_aload_0 dX11_told_68) lf_RX11_16 dX11_told_69) lf_RX11_96 dX11_told_72) ⟨fun _ => dX11_told_75, fun q => (by cases q), fun q => (by cases q)⟩)) | (simp; exact (kSt_ret (tag := 0) (kE_get (kE_get (kE_aload_0 dX11_told_68) lf_RX11_16 dX11_told_69) lf_RX11_96 dX11_told_72) ⟨fun _ => dX11_told_75, fun q => (by cases q), fun q => (by cases q)⟩))⟩
    by_cases h1 : z = 1
    · subst h1; exact ⟨76, Or.inr ⟨by decide, by decide, 75, rfl, by decide⟩, by
      first | (simp only [reduceIte, Int.reduceEq]; exact (kSt_ret (tag := 0) (kE_get (kE_get (kE_aload_0 dX11_told_76) lf_RX11_16 dX11_told_77) lf_RX11_286 dX11_told_80) ⟨fun _ => dX11_told_83, fun q => (by cases q), fun q => (by cases q)⟩)) | (simp; exact (kSt_ret (tag := 0) (kE_get (kE_get (kE_aload_0 dX11_told_76) lf_RX11_16 dX11_told_77) lf_RX11_286 dX11_told_80) ⟨fun _ => dX11_told_83, fun q => (by cases q), fun q => (by cases q)⟩))⟩
    by_cases h2 : z = 2
    · subst h2; exact ⟨84, Or.inr ⟨by decide, by decide, 83, rfl, by decide⟩, by
      first | (simp only [reduceIte, Int.reduceEq]; exact (kSt_ret (tag := 0) (kE_call (kEs_snoc kEs_nil (kE_get (kE_aload_0 dX11_told_84) lf_RX11_25 dX11_told_85)) dX11_told_88 c_Trees_parts mv_Trees_parts lm_RX11_167 ⟨rfl, rfl, by decide, by decide⟩ (by decide)) ⟨fun _ => dX11_told_91, fun q => (by cases q), fun q => (by cases q)⟩)) | (simp; exact (kSt_ret (tag := 0) (kE_call (kEs_snoc kEs_nil (kE_get (kE_aload_0 dX11_told_84) lf_RX11_25 dX11_told_85)) dX11_told_88 c_Trees_parts mv_Trees_parts lm_RX11_167 ⟨rfl, rfl, by decide, by decide⟩ (by decide)) ⟨fun _ => dX11_told_91, fun q => (by cases q), fun q => (by cases q)⟩))⟩
    by_cases h3 : z = 3
    · subst h3; exact ⟨92, Or.inr ⟨by decide, by decide, 91, rfl, by decide⟩, by
      first | (simp only [reduceIte, Int.reduceEq]; exact (kSt_ret (tag := 0) (kE_call (kEs_snoc kEs_nil (kE_get (kE_aload_0 dX11_told_92) lf_RX11_34 dX11_told_93)) dX11_told_96 c_OddArcs_evenParts mv_OddArcs_evenParts lm_RX11_289 ⟨rfl, rfl, by decide, by decide⟩ (by decide)) ⟨fun _ => dX11_told_99, fun q => (by cases q), fun q => (by cases q)⟩)) | (simp; exact (kSt_ret (tag := 0) (kE_call (kEs_snoc kEs_nil (kE_get (kE_aload_0 dX11_told_92) lf_RX11_34 dX11_told_93)) dX11_told_96 c_OddArcs_evenParts mv_OddArcs_evenParts lm_RX11_289 ⟨rfl, rfl, by decide, by decide⟩ (by decide)) ⟨fun _ => dX11_told_99, fun q => (by cases q), fun q => (by cases q)⟩))⟩
    by_cases h4 : z = 4
    · subst h4; exact ⟨100, Or.inr ⟨by decide, by decide, 99, rfl, by decide⟩, by
      first | (simp only [reduceIte, Int.reduceEq]; exact (kSt_ret (tag := 0) (kE_call (kEs_snoc kEs_nil (kE_get (kE_aload_0 dX11_told_100) lf_RX11_41 dX11_told_101)) dX11_told_104 c_Twice_bridges mv_Twice_bridges lm_RX11_291 ⟨rfl, rfl, by decide, by decide⟩ (by decide)) ⟨fun _ => dX11_told_107, fun q => (by cases q), fun q => (by cases q)⟩)) | (simp; exact (kSt_ret (tag := 0) (kE_call (kEs_snoc kEs_nil (kE_get (kE_aload_0 dX11_told_100) lf_RX11_41 dX11_told_101)) dX11_told_104 c_Twice_bridges mv_Twice_bridges lm_RX11_291 ⟨rfl, rfl, by decide, by decide⟩ (by decide)) ⟨fun _ => dX11_told_107, fun q => (by cases q), fun q => (by cases q)⟩))⟩
    by_cases h5 : z = 5
    · subst h5; exact ⟨108, Or.inr ⟨by decide, by decide, 107, rfl, by decide⟩, by
      first | (simp only [reduceIte, Int.reduceEq]; exact (kSt_ret (tag := 0) (kE_call (kEs_snoc kEs_nil (kE_get (kE_aload_0 dX11_told_108) lf_RX11_55 dX11_told_109)) dX11_told_112 c_Strong_parts mv_Strong_parts lm_RX11_294 ⟨rfl, rfl, by decide, by decide⟩ (by decide)) ⟨fun _ => dX11_told_115, fun q => (by cases q), fun q => (by cases q)⟩)) | (simp; exact (kSt_ret (tag := 0) (kE_call (kEs_snoc kEs_nil (kE_get (kE_aload_0 dX11_told_108) lf_RX11_55 dX11_told_109)) dX11_told_112 c_Strong_parts mv_Strong_parts lm_RX11_294 ⟨rfl, rfl, by decide, by decide⟩ (by decide)) ⟨fun _ => dX11_told_115, fun q => (by cases q), fun q => (by cases q)⟩))⟩
    by_cases h6 : z = 6
    · subst h6; exact ⟨116, Or.inr ⟨by decide, by decide, 115, rfl, by decide⟩, by
      first | (simp only [reduceIte, Int.reduceEq]; exact (kSt_ret (tag := 0) (kE_call (kEs_snoc kEs_nil (kE_get (kE_aload_0 dX11_told_116) lf_RX11_48 dX11_told_117)) dX11_told_120 c_Row_looseArcs mv_Row_looseArcs lm_RX11_295 ⟨rfl, rfl, by decide, by decide⟩ (by decide)) ⟨fun _ => dX11_told_123, fun q => (by cases q), fun q => (by cases q)⟩)) | (simp; exact (kSt_ret (tag := 0) (kE_call (kEs_snoc kEs_nil (kE_get (kE_aload_0 dX11_told_116) lf_RX11_48 dX11_told_117)) dX11_told_120 c_Row_looseArcs mv_Row_looseArcs lm_RX11_295 ⟨rfl, rfl, by decide, by decide⟩ (by decide)) ⟨fun _ => dX11_told_123, fun q => (by cases q), fun q => (by cases q)⟩))⟩
    by_cases h7 : z = 7
    · subst h7; exact ⟨124, Or.inr ⟨by decide, by decide, 123, rfl, by decide⟩, by
      first | (simp only [reduceIte, Int.reduceEq]; exact (kSt_ret (tag := 0) (kE_call (kEs_snoc kEs_nil (kE_get (kE_aload_0 dX11_told_124) lf_RX11_69 dX11_told_125)) dX11_told_128 c_Chosen_size mv_Chosen_size lm_RX11_298 ⟨rfl, rfl, by decide, by decide⟩ (by decide)) ⟨fun _ => dX11_told_131, fun q => (by cases q), fun q => (by cases q)⟩)) | (simp; exact (kSt_ret (tag := 0) (kE_call (kEs_snoc kEs_nil (kE_get (kE_aload_0 dX11_told_124) lf_RX11_69 dX11_told_125)) dX11_told_128 c_Chosen_size mv_Chosen_size lm_RX11_298 ⟨rfl, rfl, by decide, by decide⟩ (by decide)) ⟨fun _ => dX11_told_131, fun q => (by cases q), fun q => (by cases q)⟩))⟩
    by_cases h8 : z = 8
    · subst h8; exact ⟨132, Or.inr ⟨by decide, by decide, 131, rfl, by decide⟩, by
      first | (simp only [reduceIte, Int.reduceEq]; exact (kSt_ret (tag := 0) (kE_call (kEs_snoc kEs_nil (kE_get (kE_aload_0 dX11_told_132) lf_RX11_62 dX11_told_133)) dX11_told_136 c_Sides_greatestCore mv_Sides_greatestCore lm_RX11_301 ⟨rfl, rfl, by decide, by decide⟩ (by decide)) ⟨fun _ => dX11_told_139, fun q => (by cases q), fun q => (by cases q)⟩)) | (simp; exact (kSt_ret (tag := 0) (kE_call (kEs_snoc kEs_nil (kE_get (kE_aload_0 dX11_told_132) lf_RX11_62 dX11_told_133)) dX11_told_136 c_Sides_greatestCore mv_Sides_greatestCore lm_RX11_301 ⟨rfl, rfl, by decide, by decide⟩ (by decide)) ⟨fun _ => dX11_told_139, fun q => (by cases q), fun q => (by cases q)⟩))⟩
    by_cases h9 : z = 9
    · subst h9; exact ⟨140, Or.inr ⟨by decide, by decide, 139, rfl, by decide⟩, by
      first | (simp only [reduceIte, Int.reduceEq]; exact (kSt_ret (tag := 0) (kE_call (kEs_snoc kEs_nil (kE_get (kE_aload_0 dX11_told_140) lf_RX11_25 dX11_told_141)) dX11_told_144 c_Trees_greatestLevel mv_Trees_greatestLevel lm_RX11_304 ⟨rfl, rfl, by decide, by decide⟩ (by decide)) ⟨fun _ => dX11_told_147, fun q => (by cases q), fun q => (by cases q)⟩)) | (simp; exact (kSt_ret (tag := 0) (kE_call (kEs_snoc kEs_nil (kE_get (kE_aload_0 dX11_told_140) lf_RX11_25 dX11_told_141)) dX11_told_144 c_Trees_greatestLevel mv_Trees_greatestLevel lm_RX11_304 ⟨rfl, rfl, by decide, by decide⟩ (by decide)) ⟨fun _ => dX11_told_147, fun q => (by cases q), fun q => (by cases q)⟩))⟩
    by_cases h10 : z = 10
    · subst h10; exact ⟨148, Or.inr ⟨by decide, by decide, 147, rfl, by decide⟩, by
      first | (simp only [reduceIte, Int.reduceEq]; exact (kSt_ret (tag := 0) (kE_call (kEs_snoc kEs_nil (kE_get (kE_aload_0 dX11_told_148) lf_RX11_25 dX11_told_149)) dX11_told_152 c_Trees_treeArcs mv_Trees_treeArcs lm_RX11_307 ⟨rfl, rfl, by decide, by decide⟩ (by decide)) ⟨fun _ => dX11_told_155, fun q => (by cases q), fun q => (by cases q)⟩)) | (simp; exact (kSt_ret (tag := 0) (kE_call (kEs_snoc kEs_nil (kE_get (kE_aload_0 dX11_told_148) lf_RX11_25 dX11_told_149)) dX11_told_152 c_Trees_treeArcs mv_Trees_treeArcs lm_RX11_307 ⟨rfl, rfl, by decide, by decide⟩ (by decide)) ⟨fun _ => dX11_told_155, fun q => (by cases q), fun q => (by cases q)⟩))⟩
    by_cases h11 : z = 11
    · subst h11; exact ⟨156, Or.inr ⟨by decide, by decide, 155, rfl, by decide⟩, by
      first | (simp only [reduceIte, Int.reduceEq]; exact (kSt_ret (tag := 0) (kE_get (kE_get (kE_aload_0 dX11_told_156) lf_RX11_85 dX11_told_157) lf_RX11_263 dX11_told_160) ⟨fun _ => dX11_told_163, fun q => (by cases q), fun q => (by cases q)⟩)) | (simp; exact (kSt_ret (tag := 0) (kE_get (kE_get (kE_aload_0 dX11_told_156) lf_RX11_85 dX11_told_157) lf_RX11_263 dX11_told_160) ⟨fun _ => dX11_told_163, fun q => (by cases q), fun q => (by cases q)⟩))⟩
    by_cases h12 : z = 12
    · subst h12; exact ⟨164, Or.inr ⟨by decide, by decide, 163, rfl, by decide⟩, by
      first | (simp only [reduceIte, Int.reduceEq]; exact (kSt_ret (tag := 0) (kE_get (kE_aload_0 dX11_told_164) lf_RX11_92 dX11_told_165) ⟨fun _ => dX11_told_168, fun q => (by cases q), fun q => (by cases q)⟩)) | (simp; exact (kSt_ret (tag := 0) (kE_get (kE_aload_0 dX11_told_164) lf_RX11_92 dX11_told_165) ⟨fun _ => dX11_told_168, fun q => (by cases q), fun q => (by cases q)⟩))⟩
    refine ⟨169, Or.inl ⟨by omega, by decide⟩, ?_⟩
    simp only [h0, h1, h2, h3, h4, h5, h6, h7, h8, h9, h10, h11, h12]; exact kSt_throw))
theorem th_told : ∀ pc E, (site_told pc).map (·.1) = some E → kTh MT_KP_told pc E := by
  intro pc E h
  dsimp only [site_told] at h
  split at h
  · rename_i e; subst e; cases h; exact kTh_S (text := "no such what") rfl tw_118 cl_KP_114 (by decide +kernel) dX11_told_169 dX11_told_172 dX11_told_173 dX11_told_175 dX11_told_178 ⟨by decide, by decide, by decide, by decide⟩
  cases h
theorem cx_told : kConX yX11_told cX11_told 2 (some .int) { frames := 6, cells := 1, slots := 6, locals := 138 } 2 kI (fun pc => (site_told pc).map (·.1)) s_KP_told := kConX_of kEnds_I (by decide +kernel) (by decide) ⟨rfl, rfl⟩ ⟨0, 0, 0, bt_KP_told⟩ th_told
theorem mvx_told : kMv yX11_told cX11_told 2 (some .int) 11 1 := ⟨(ktb5 178 (by decide +kernel) (by decide +kernel)), (ktb5 176 (by decide +kernel) (by decide +kernel)), (ktb5 177 (by decide +kernel) (by decide +kernel)), (ktb1 1 (by decide +kernel) (by decide +kernel)), ⟨_, _, rfl⟩, ⟨by decide +kernel, by decide +kernel⟩, by decide +kernel⟩
theorem lmL_69 : Cond.methodLink RL 69 yX11_told ∈ kTBL := (ktb5 175 (by decide +kernel) (by decide +kernel))
theorem hh_told : ∀ (pc : Nat) (E : String) (k : Int), site_told pc = some (E, k) → kHh (cL_told, yL_told.cls, 4, { frames := 7, cells := 1, slots := 6, locals := 159 }, some .int) 4 [(0, 9, 12, 18)] E k := by
  intro pc E k h
  dsimp only [site_told] at h
  split at h
  · cases h
    exact ⟨⟨by decide, by decide⟩, [], (0, 9, 12, 18), [], 13, rfl, by decide, (fun z hz => by cases hz), by decide +kernel, by decide, cl_L_18, Or.inl ⟨3, dL_told_12, by decide, rfl⟩, dL_told_13, dL_told_14⟩
  cases h
theorem cw_told : kConW yL_told cL_told 4 [(0, 9, 12, 18)] { frames := 7, cells := 1, slots := 6, locals := 159 } 1 s_KP_told kI site_told := kWr (pE := 15) (by decide +kernel) (by decide) ⟨rfl, rfl⟩ cx_told mvx_told lmL_69 ⟨rfl, rfl, by decide, by decide⟩ dL_told_4
  (by
    intro xs hxs X σ C k
    obtain ⟨x0, rfl⟩ := kLen1 hxs
    exact (kg_aload_n C dL_told_0 rfl (kg_iconst C dL_told_1 (kg_aload_n C dL_told_2 rfl (kg_iload_n C dL_told_3 rfl k)))))
  (fun X L z σ C hz hr k => kg_i2l C dL_told_7 hr (kg_last C dL_told_8 ⟨by decide, by decide⟩ rfl (kg_goto (tgt := 15) C dL_told_9 (by decide) k)))
  dL_told_15 dL_told_16 hh_told
