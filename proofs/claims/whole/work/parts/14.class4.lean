noncomputable def s_Plan_isLeft : kSx :=
  (sRet 0 (eIf (cOr (cC 0 (eI 1) (eK (-1))) (cC 3 (eI 1) (eI 2))) (eK (1)) (eK (0))))
abbrev M_Plan_isLeft : kM := (cX4_isLeft, yX4_isLeft.cls, 3, { frames := 0, cells := 0, slots := 0, locals := 0 }, (some .boolean))
set_option maxRecDepth 20000 in
theorem b_Plan_isLeft : kSt M_Plan_isLeft 0 0 0 0 s_Plan_isLeft :=
  (kSt_ret (tag := 0) (kE_if (kCd_or (kCd_C (kE_iload_1 dX4_isLeft_0) (kE_ic_m1 dX4_isLeft_1) (kJt_0 (tgt := 10) dX4_isLeft_2 (by decide))) (kCd_C (kE_iload_1 dX4_isLeft_5) (kE_iload_2 dX4_isLeft_6) (kJf_3 (tgt := 14) dX4_isLeft_7 (by decide)))) (kE_goto (tgt := 15) (kE_ic_1 dX4_isLeft_10) dX4_isLeft_11 (by decide)) (kE_ic_0 dX4_isLeft_14)) ⟨fun _ => dX4_isLeft_15, fun q => (by cases q), fun q => (by cases q)⟩)
noncomputable def F_Plan_isLeft : kFn := kF 3 kZ s_Plan_isLeft
theorem c_Plan_isLeft : kCon yX4_isLeft cX4_isLeft 3 (some .boolean) { frames := 0, cells := 0, slots := 0, locals := 0 } F_Plan_isLeft := kCon_of kEnds_Z (by decide +kernel) (by decide) ⟨0, 0, 0, b_Plan_isLeft⟩
noncomputable def l_Plan_behind_1 : kSx := sFor 3 (cC 2 (eI 2) (eGet 10 4 (eGet 4 1 (eR 0))))
  (sTrunc 3 (sSeq (sLet 0 3 (eAld 0 (eGet 10 2 (eGet 4 1 (eR 0))) (eI 2)))
  (sIf (cZ 1 (eCall 4 F_Plan_isLeft (eSnoc (eSnoc (eSnoc eNil (eR 0)) (eAld 0 (eGet 4 7 (eR 0)) (eI 3))) (eI 1)))) (sE (eCall 2 F_Joiner_join (eSnoc (eSnoc (eSnoc eNil (eGet 4 2 (eR 0))) (eAld 0 (eGet 10 0 (eGet 4 1 (eR 0))) (eI 3))) (eAld 0 (eGet 10 1 (eGet 4 1 (eR 0))) (eI 3))))) sSkip)))
  (sInc 2 (1))
noncomputable def l_Plan_behind_2 : kSx := sFor 3 (cC 2 (eI 2) (eI 1))
  (sIf (cAnd (cZ 1 (eAld 1 (eGet 4 4 (eR 0)) (eI 2))) (cZ 1 (eCall 4 F_Plan_isLeft (eSnoc (eSnoc (eSnoc eNil (eR 0)) (eAld 0 (eGet 4 8 (eR 0)) (eI 2))) (eI 1))))) (sE (eCall 2 F_Joiner_join (eSnoc (eSnoc (eSnoc eNil (eGet 4 2 (eR 0))) (eAld 0 (eGet 4 5 (eR 0)) (eI 2))) (eAld 0 (eGet 4 6 (eR 0)) (eI 2))))) sSkip)
  (sInc 2 (1))
noncomputable def s_Plan_behind : kSx :=
  (sSeq (sCall 2 F_Joiner_begin (eSnoc (eSnoc eNil (eGet 4 2 (eR 0))) (eGet 10 3 (eGet 4 1 (eR 0)))))
  (sSeq (sTrunc 2 (sSeq (sLet 0 2 (eK (0))) l_Plan_behind_1))
  (sSeq (sTrunc 2 (sSeq (sLet 0 2 (eK (0))) l_Plan_behind_2))
  (sRet 1 (eGet 4 2 (eR 0))))))
abbrev M_Plan_behind : kM := (cX4_behind, yX4_behind.cls, 4, { frames := 3, cells := 0, slots := 0, locals := 70 }, (some (.object "KeptParts$Joiner")))
set_option maxRecDepth 20000 in
theorem b_Plan_behind : kSt M_Plan_behind 0 0 0 0 s_Plan_behind :=
  (kSt_seq (p1 := 14) (kSt_call (kEs_snoc (kEs_snoc kEs_nil (kE_get (kE_aload_0 dX4_behind_0) lf_RX4_35 dX4_behind_1)) (kE_get (kE_get (kE_aload_0 dX4_behind_4) lf_RX4_31 dX4_behind_5) lf_RX4_58 dX4_behind_8)) dX4_behind_11 c_Joiner_begin mv_Joiner_begin lm_RX4_61 ⟨rfl, rfl, by decide, by decide⟩)
  (kSt_seq (p1 := 83) (kSt_trunc (kSt_seq (kSt_let (kE_ic_0 dX4_behind_14) (kSet_istore_2 dX4_behind_15 (by decide))) (kSt_for (pu := 77) (pt := 27) (kCd_C (kE_iload_2 dX4_behind_16) (kE_get (kE_get (kE_aload_0 dX4_behind_17) lf_RX4_31 dX4_behind_18) lf_RX4_53 dX4_behind_21) (kJf_2 (tgt := 83) dX4_behind_24 (by decide))) (kSt_trunc (kSt_seq (p1 := 37) (kSt_let (kE_iald (kE_get (kE_get (kE_aload_0 dX4_behind_27) lf_RX4_31 dX4_behind_28) lf_RX4_67 dX4_behind_31) (kE_iload_2 dX4_behind_34) dX4_behind_35) (kSet_istore_3 dX4_behind_36 (by decide)))
  (kSt_if (kCd_Z (kE_call (kEs_snoc (kEs_snoc (kEs_snoc kEs_nil (kE_aload_0 dX4_behind_37)) (kE_iald (kE_get (kE_aload_0 dX4_behind_38) lf_RX4_25 dX4_behind_39) (kE_iload_3 dX4_behind_42) dX4_behind_43)) (kE_iload_1 dX4_behind_44)) dX4_behind_45 c_Plan_isLeft mv_Plan_isLeft lm_RX4_70 ⟨rfl, rfl, by decide, by decide⟩ (by decide)) (kZf_1 (tgt := 77) dX4_behind_48 (by decide))) (kSt_E (kE_call (kEs_snoc (kEs_snoc (kEs_snoc kEs_nil (kE_get (kE_aload_0 dX4_behind_51) lf_RX4_35 dX4_behind_52)) (kE_iald (kE_get (kE_get (kE_aload_0 dX4_behind_55) lf_RX4_31 dX4_behind_56) lf_RX4_74 dX4_behind_59) (kE_iload_3 dX4_behind_62) dX4_behind_63)) (kE_iald (kE_get (kE_get (kE_aload_0 dX4_behind_64) lf_RX4_31 dX4_behind_65) lf_RX4_75 dX4_behind_68) (kE_iload_3 dX4_behind_71) dX4_behind_72)) dX4_behind_73 c_Joiner_join mv_Joiner_join lm_RX4_76 ⟨rfl, rfl, by decide, by decide⟩ (by decide)) dX4_behind_76) kSt_skip))) (kSt_goto (tgt := 16) (kSt_inc dX4_behind_77 (by decide)) dX4_behind_80 (by decide)))))
  (kSt_seq (p1 := 139) (kSt_trunc (kSt_seq (kSt_let (kE_ic_0 dX4_behind_83) (kSet_istore_2 dX4_behind_84 (by decide))) (kSt_for (pu := 133) (pt := 90) (kCd_C (kE_iload_2 dX4_behind_85) (kE_iload_1 dX4_behind_86) (kJf_2 (tgt := 139) dX4_behind_87 (by decide))) (kSt_if (kCd_and (kCd_Z (kE_zald (kE_get (kE_aload_0 dX4_behind_90) lf_RX4_15 dX4_behind_91) (kE_iload_2 dX4_behind_94) dX4_behind_95) (kZf_1 (tgt := 133) dX4_behind_96 (by decide))) (kCd_Z (kE_call (kEs_snoc (kEs_snoc (kEs_snoc kEs_nil (kE_aload_0 dX4_behind_99)) (kE_iald (kE_get (kE_aload_0 dX4_behind_100) lf_RX4_28 dX4_behind_101) (kE_iload_2 dX4_behind_104) dX4_behind_105)) (kE_iload_1 dX4_behind_106)) dX4_behind_107 c_Plan_isLeft mv_Plan_isLeft lm_RX4_70 ⟨rfl, rfl, by decide, by decide⟩ (by decide)) (kZf_1 (tgt := 133) dX4_behind_110 (by decide)))) (kSt_E (kE_call (kEs_snoc (kEs_snoc (kEs_snoc kEs_nil (kE_get (kE_aload_0 dX4_behind_113) lf_RX4_35 dX4_behind_114)) (kE_iald (kE_get (kE_aload_0 dX4_behind_117) lf_RX4_19 dX4_behind_118) (kE_iload_2 dX4_behind_121) dX4_behind_122)) (kE_iald (kE_get (kE_aload_0 dX4_behind_123) lf_RX4_22 dX4_behind_124) (kE_iload_2 dX4_behind_127) dX4_behind_128)) dX4_behind_129 c_Joiner_join mv_Joiner_join lm_RX4_76 ⟨rfl, rfl, by decide, by decide⟩ (by decide)) dX4_behind_132) kSt_skip) (kSt_goto (tgt := 85) (kSt_inc dX4_behind_133 (by decide)) dX4_behind_136 (by decide)))))
  (kSt_ret (tag := 1) (kE_get (kE_aload_0 dX4_behind_139) lf_RX4_35 dX4_behind_140) ⟨fun q => (by cases q), fun _ => dX4_behind_143, fun q => (by cases q)⟩))))
noncomputable def F_Plan_behind : kFn := kF 2 kA s_Plan_behind
theorem c_Plan_behind : kCon yX4_behind cX4_behind 4 (some (.object "KeptParts$Joiner")) { frames := 3, cells := 0, slots := 0, locals := 70 } F_Plan_behind := kCon_of kEnds_A (by decide +kernel) (by decide) ⟨0, 0, 0, b_Plan_behind⟩
noncomputable def s_KP_addNode : kSx :=
  (sSeq (sLet 0 2 (eCall 10 F_Web_addNode (eSnoc eNil (eGet 11 1 (eR 0)))))
  (sSeq (sCall 8 F_Trees_nodeAdded (eSnoc (eSnoc eNil (eGet 11 2 (eR 0))) (eI 2)))
  (sSeq (sCall 5 F_Row_nodeAdded (eSnoc (eSnoc eNil (eGet 11 5 (eR 0))) (eI 2)))
  (sSeq (sCall 0 F_Chosen_nodeAdded (eSnoc (eSnoc (eSnoc eNil (eGet 11 8 (eR 0))) (eI 2)) (eI 1)))
  (sRet 0 (eI 2))))))
abbrev M_KP_addNode : kM := (cX11_addNode, yX11_addNode.cls, 3, { frames := 3, cells := 0, slots := 0, locals := 78 }, (some .int))
set_option maxRecDepth 20000 in
theorem b_KP_addNode : kSt M_KP_addNode 0 0 0 0 s_KP_addNode :=
  (kSt_seq (p1 := 8) (kSt_let (kE_call (kEs_snoc kEs_nil (kE_get (kE_aload_0 dX11_addNode_0) lf_RX11_16 dX11_addNode_1)) dX11_addNode_4 c_Web_addNode mv_Web_addNode lm_RX11_328 ⟨rfl, rfl, by decide, by decide⟩ (by decide)) (kSet_istore_2 dX11_addNode_7 (by decide)))
  (kSt_seq (p1 := 16) (kSt_call (kEs_snoc (kEs_snoc kEs_nil (kE_get (kE_aload_0 dX11_addNode_8) lf_RX11_25 dX11_addNode_9)) (kE_iload_2 dX11_addNode_12)) dX11_addNode_13 c_Trees_nodeAdded mv_Trees_nodeAdded lm_RX11_330 ⟨rfl, rfl, by decide, by decide⟩)
  (kSt_seq (p1 := 24) (kSt_call (kEs_snoc (kEs_snoc kEs_nil (kE_get (kE_aload_0 dX11_addNode_16) lf_RX11_48 dX11_addNode_17)) (kE_iload_2 dX11_addNode_20)) dX11_addNode_21 c_Row_nodeAdded mv_Row_nodeAdded lm_RX11_333 ⟨rfl, rfl, by decide, by decide⟩)
  (kSt_seq (p1 := 33) (kSt_call (kEs_snoc (kEs_snoc (kEs_snoc kEs_nil (kE_get (kE_aload_0 dX11_addNode_24) lf_RX11_69 dX11_addNode_25)) (kE_iload_2 dX11_addNode_28)) (kE_iload_1 dX11_addNode_29)) dX11_addNode_30 c_Chosen_nodeAdded mv_Chosen_nodeAdded lm_RX11_334 ⟨rfl, rfl, by decide, by decide⟩)
  (kSt_ret (tag := 0) (kE_iload_2 dX11_addNode_33) ⟨fun _ => dX11_addNode_34, fun q => (by cases q), fun q => (by cases q)⟩)))))
noncomputable def F_KP_addNode : kFn := kF 2 kI s_KP_addNode
theorem c_KP_addNode : kCon yX11_addNode cX11_addNode 3 (some .int) { frames := 3, cells := 0, slots := 0, locals := 78 } F_KP_addNode := kCon_of kEnds_I (by decide +kernel) (by decide) ⟨0, 0, 0, b_KP_addNode⟩
noncomputable def s_KP_node : kSx :=
  (sSeq (sIf (cC 3 (eGet 10 3 (eGet 11 1 (eR 0))) (eK (300))) (sThrow 13) sSkip)
  (sSeq (sE (eCall 4 F_Plan_forget (eSnoc eNil (eGet 11 9 (eR 0)))))
  (sRet 0 (eCall 11 F_KP_addNode (eSnoc (eSnoc eNil (eR 0)) (eI 1))))))
abbrev M_KP_node : kM := (cX11_node, yX11_node.cls, 2, { frames := 4, cells := 0, slots := 0, locals := 100 }, (some .int))
set_option maxRecDepth 20000 in
theorem b_KP_node : kSt M_KP_node 0 0 0 0 s_KP_node :=
  (kSt_seq (p1 := 23) (kSt_if (kCd_C (kE_get (kE_get (kE_aload_0 dX11_node_0) lf_RX11_16 dX11_node_1) lf_RX11_96 dX11_node_4) (kE_sipush dX11_node_7 (by rfl) ⟨by decide, by decide⟩) (kJf_3 (tgt := 23) dX11_node_10 (by decide))) kSt_throw kSt_skip)
  (kSt_seq (p1 := 31) (kSt_E (kE_call (kEs_snoc kEs_nil (kE_get (kE_aload_0 dX11_node_23) lf_RX11_85 dX11_node_24)) dX11_node_27 c_Plan_forget mv_Plan_forget lm_RX11_106 ⟨rfl, rfl, by decide, by decide⟩ (by decide)) dX11_node_30)
  (kSt_ret (tag := 0) (kE_call (kEs_snoc (kEs_snoc kEs_nil (kE_aload_0 dX11_node_31)) (kE_iload_1 dX11_node_32)) dX11_node_33 c_KP_addNode mv_KP_addNode lm_RX11_110 ⟨rfl, rfl, by decide, by decide⟩ (by decide)) ⟨fun _ => dX11_node_36, fun q => (by cases q), fun q => (by cases q)⟩)))
noncomputable def s_KP_addArc : kSx :=
  (sSeq (sLet 0 4 (eCall 10 F_Web_addArc (eSnoc (eSnoc (eSnoc eNil (eGet 11 1 (eR 0))) (eI 1)) (eI 2))))
  (sSeq (sCall 8 F_Trees_arcAdded (eSnoc (eSnoc eNil (eGet 11 2 (eR 0))) (eI 4)))
  (sSeq (sCall 5 F_Row_arcAdded (eSnoc (eSnoc (eSnoc eNil (eGet 11 5 (eR 0))) (eI 4)) (eI 3)))
  (sSeq (sPut 11 12 (eR 0) (eCall 0 F_Chosen_arcChanged (eSnoc (eSnoc (eSnoc eNil (eGet 11 8 (eR 0))) (eI 1)) (eI 2))))
  (sRet 0 (eI 4))))))
abbrev M_KP_addArc : kM := (cX11_addArc, yX11_addArc.cls, 5, { frames := 4, cells := 0, slots := 0, locals := 103 }, (some .int))
set_option maxRecDepth 20000 in
theorem b_KP_addArc : kSt M_KP_addArc 0 0 0 0 s_KP_addArc :=
  (kSt_seq (p1 := 11) (kSt_let (kE_call (kEs_snoc (kEs_snoc (kEs_snoc kEs_nil (kE_get (kE_aload_0 dX11_addArc_0) lf_RX11_16 dX11_addArc_1)) (kE_iload_1 dX11_addArc_4)) (kE_iload_2 dX11_addArc_5)) dX11_addArc_6 c_Web_addArc mv_Web_addArc lm_RX11_337 ⟨rfl, rfl, by decide, by decide⟩ (by decide)) (kSet_istore dX11_addArc_9 (by decide)))
  (kSt_seq (p1 := 20) (kSt_call (kEs_snoc (kEs_snoc kEs_nil (kE_get (kE_aload_0 dX11_addArc_11) lf_RX11_25 dX11_addArc_12)) (kE_iload dX11_addArc_15)) dX11_addArc_17 c_Trees_arcAdded mv_Trees_arcAdded lm_RX11_339 ⟨rfl, rfl, by decide, by decide⟩)
  (kSt_seq (p1 := 30) (kSt_call (kEs_snoc (kEs_snoc (kEs_snoc kEs_nil (kE_get (kE_aload_0 dX11_addArc_20) lf_RX11_48 dX11_addArc_21)) (kE_iload dX11_addArc_24)) (kE_iload_3 dX11_addArc_26)) dX11_addArc_27 c_Row_arcAdded mv_Row_arcAdded lm_RX11_342 ⟨rfl, rfl, by decide, by decide⟩)
  (kSt_seq (p1 := 43) (kSt_put (kE_aload_0 dX11_addArc_30) (kE_call (kEs_snoc (kEs_snoc (kEs_snoc kEs_nil (kE_get (kE_aload_0 dX11_addArc_31) lf_RX11_69 dX11_addArc_32)) (kE_iload_1 dX11_addArc_35)) (kE_iload_2 dX11_addArc_36)) dX11_addArc_37 c_Chosen_arcChanged mv_Chosen_arcChanged lm_RX11_163 ⟨rfl, rfl, by decide, by decide⟩ (by decide)) lp_RX11_92 dX11_addArc_40)
  (kSt_ret (tag := 0) (kE_iload dX11_addArc_43) ⟨fun _ => dX11_addArc_45, fun q => (by cases q), fun q => (by cases q)⟩)))))
noncomputable def F_KP_addArc : kFn := kF 4 kI s_KP_addArc
theorem c_KP_addArc : kCon yX11_addArc cX11_addArc 5 (some .int) { frames := 4, cells := 0, slots := 0, locals := 103 } F_KP_addArc := kCon_of kEnds_I (by decide +kernel) (by decide) ⟨0, 0, 0, b_KP_addArc⟩
noncomputable def l_KP_chain_1 : kSx := sFor 4 (cC 2 (eI 3) (eI 1))
  (sE (eCall 11 F_KP_addNode (eSnoc (eSnoc eNil (eR 0)) (eK (0)))))
  (sInc 3 (1))
noncomputable def l_KP_chain_2 : kSx := sFor 4 (cC 2 (eI 3) (eI 1))
  (sE (eCall 11 F_KP_addArc (eSnoc (eSnoc (eSnoc (eSnoc eNil (eR 0)) (eBin kSub (eBin kAdd (eI 2) (eI 3)) (eK (1)))) (eBin kAdd (eI 2) (eI 3))) (eK (0)))))
  (sInc 3 (1))
noncomputable def s_KP_chain : kSx :=
  (sSeq (sIf (cOr (cC 2 (eI 1) (eK (1))) (cC 4 (eI 1) (eK (300)))) (sThrow 12) sSkip)
  (sSeq (sIf (cOr (cC 4 (eI 1) (eBin kSub (eK (300)) (eGet 10 3 (eGet 11 1 (eR 0))))) (cNot (cZ 1 (eCall 10 F_Web_hasRoom (eSnoc (eSnoc eNil (eGet 11 1 (eR 0))) (eBin kSub (eI 1) (eK (1)))))))) (sThrow 50) sSkip)
  (sSeq (sE (eCall 4 F_Plan_forget (eSnoc eNil (eGet 11 9 (eR 0)))))
  (sSeq (sLet 0 2 (eGet 10 3 (eGet 11 1 (eR 0))))
  (sSeq (sTrunc 3 (sSeq (sLet 0 3 (eK (0))) l_KP_chain_1))
  (sSeq (sTrunc 3 (sSeq (sLet 0 3 (eK (1))) l_KP_chain_2))
  (sRet 0 (eI 2))))))))
abbrev M_KP_chain : kM := (cX11_chain, yX11_chain.cls, 4, { frames := 5, cells := 0, slots := 0, locals := 127 }, (some .int))
set_option maxRecDepth 20000 in
theorem b_KP_chain : kSt M_KP_chain 0 0 0 0 s_KP_chain :=
  (kSt_seq (p1 := 22) (kSt_if (kCd_or (kCd_C (kE_iload_1 dX11_chain_0) (kE_ic_1 dX11_chain_1) (kJt_2 (tgt := 12) dX11_chain_2 (by decide))) (kCd_C (kE_iload_1 dX11_chain_5) (kE_sipush dX11_chain_6 (by rfl) ⟨by decide, by decide⟩) (kJf_4 (tgt := 22) dX11_chain_9 (by decide)))) kSt_throw kSt_skip)
  (kSt_seq (p1 := 60) (kSt_if (kCd_or (kCd_C (kE_iload_1 dX11_chain_22) (kE_bin (kE_sipush dX11_chain_23 (by rfl) ⟨by decide, by decide⟩) (kE_get (kE_get (kE_aload_0 dX11_chain_26) lf_RX11_16 dX11_chain_27) lf_RX11_96 dX11_chain_30) (kOp_sub dX11_chain_33)) (kJt_4 (tgt := 50) dX11_chain_34 (by decide))) (kCd_not (kCd_Z (kE_call (kEs_snoc (kEs_snoc kEs_nil (kE_get (kE_aload_0 dX11_chain_37) lf_RX11_16 dX11_chain_38)) (kE_bin (kE_iload_1 dX11_chain_41) (kE_ic_1 dX11_chain_42) (kOp_sub dX11_chain_43))) dX11_chain_44 c_Web_hasRoom mv_Web_hasRoom lm_RX11_119 ⟨rfl, rfl, by decide, by decide⟩ (by decide)) (kZt_1 (tgt := 60) dX11_chain_47 (by decide))))) kSt_throw kSt_skip)
  (kSt_seq (p1 := 68) (kSt_E (kE_call (kEs_snoc kEs_nil (kE_get (kE_aload_0 dX11_chain_60) lf_RX11_85 dX11_chain_61)) dX11_chain_64 c_Plan_forget mv_Plan_forget lm_RX11_106 ⟨rfl, rfl, by decide, by decide⟩ (by decide)) dX11_chain_67)
  (kSt_seq (p1 := 76) (kSt_let (kE_get (kE_get (kE_aload_0 dX11_chain_68) lf_RX11_16 dX11_chain_69) lf_RX11_96 dX11_chain_72) (kSet_istore_2 dX11_chain_75 (by decide)))
  (kSt_seq (p1 := 95) (kSt_trunc (kSt_seq (kSt_let (kE_ic_0 dX11_chain_76) (kSet_istore_3 dX11_chain_77 (by decide))) (kSt_for (pu := 89) (pt := 83) (kCd_C (kE_iload_3 dX11_chain_78) (kE_iload_1 dX11_chain_79) (kJf_2 (tgt := 95) dX11_chain_80 (by decide))) (kSt_E (kE_call (kEs_snoc (kEs_snoc kEs_nil (kE_aload_0 dX11_chain_83)) (kE_ic_0 dX11_chain_84)) dX11_chain_85 c_KP_addNode mv_KP_addNode lm_RX11_110 ⟨rfl, rfl, by decide, by decide⟩ (by decide)) dX11_chain_88) (kSt_goto (tgt := 78) (kSt_inc dX11_chain_89 (by decide)) dX11_chain_92 (by decide)))))
  (kSt_seq (p1 := 122) (kSt_trunc (kSt_seq (kSt_let (kE_ic_1 dX11_chain_95) (kSet_istore_3 dX11_chain_96 (by decide))) (kSt_for (pu := 116) (pt := 102) (kCd_C (kE_iload_3 dX11_chain_97) (kE_iload_1 dX11_chain_98) (kJf_2 (tgt := 122) dX11_chain_99 (by decide))) (kSt_E (kE_call (kEs_snoc (kEs_snoc (kEs_snoc (kEs_snoc kEs_nil (kE_aload_0 dX11_chain_102)) (kE_bin (kE_bin (kE_iload_2 dX11_chain_103) (kE_iload_3 dX11_chain_104) (kOp_add dX11_chain_105)) (kE_ic_1 dX11_chain_106) (kOp_sub dX11_chain_107))) (kE_bin (kE_iload_2 dX11_chain_108) (kE_iload_3 dX11_chain_109) (kOp_add dX11_chain_110))) (kE_ic_0 dX11_chain_111)) dX11_chain_112 c_KP_addArc mv_KP_addArc lm_RX11_125 ⟨rfl, rfl, by decide, by decide⟩ (by decide)) dX11_chain_115) (kSt_goto (tgt := 97) (kSt_inc dX11_chain_116 (by decide)) dX11_chain_119 (by decide)))))
  (kSt_ret (tag := 0) (kE_iload_2 dX11_chain_122) ⟨fun _ => dX11_chain_123, fun q => (by cases q), fun q => (by cases q)⟩)))))))
noncomputable def s_KP_put : kSx :=
  (sSeq (sIf (cOr (cNot (cZ 1 (eCall 10 F_Web_hasNode (eSnoc (eSnoc eNil (eGet 11 1 (eR 0))) (eI 1))))) (cNot (cZ 1 (eCall 10 F_Web_hasNode (eSnoc (eSnoc eNil (eGet 11 1 (eR 0))) (eI 2)))))) (sThrow 22) sSkip)
  (sSeq (sIf (cNot (cZ 1 (eCall 10 F_Web_hasRoom (eSnoc (eSnoc eNil (eGet 11 1 (eR 0))) (eK (1)))))) (sThrow 43) sSkip)
  (sSeq (sLet 0 3 (eCall 5 F_Row_tellRing (eSnoc (eSnoc (eSnoc eNil (eGet 11 5 (eR 0))) (eI 1)) (eI 2))))
  (sSeq (sIf (cAnd (cZ 1 (eI 3)) (cZ 1 (eGet 11 0 (eR 0)))) (sRet 0 (eK (-1))) sSkip)
  (sSeq (sE (eCall 4 F_Plan_forget (eSnoc eNil (eGet 11 9 (eR 0)))))
  (sRet 0 (eCall 11 F_KP_addArc (eSnoc (eSnoc (eSnoc (eSnoc eNil (eR 0)) (eI 1)) (eI 2)) (eI 3)))))))))
abbrev M_KP_put : kM := (cX11_put, yX11_put.cls, 4, { frames := 5, cells := 0, slots := 0, locals := 127 }, (some .int))
set_option maxRecDepth 20000 in
theorem b_KP_put : kSt M_KP_put 0 0 0 0 s_KP_put :=
  (kSt_seq (p1 := 32) (kSt_if (kCd_or (kCd_not (kCd_Z (kE_call (kEs_snoc (kEs_snoc kEs_nil (kE_get (kE_aload_0 dX11_put_0) lf_RX11_16 dX11_put_1)) (kE_iload_1 dX11_put_4)) dX11_put_5 c_Web_hasNode mv_Web_hasNode lm_RX11_129 ⟨rfl, rfl, by decide, by decide⟩ (by decide)) (kZf_1 (tgt := 22) dX11_put_8 (by decide)))) (kCd_not (kCd_Z (kE_call (kEs_snoc (kEs_snoc kEs_nil (kE_get (kE_aload_0 dX11_put_11) lf_RX11_16 dX11_put_12)) (kE_iload_2 dX11_put_15)) dX11_put_16 c_Web_hasNode mv_Web_hasNode lm_RX11_129 ⟨rfl, rfl, by decide, by decide⟩ (by decide)) (kZt_1 (tgt := 32) dX11_put_19 (by decide))))) kSt_throw kSt_skip)
  (kSt_seq (p1 := 53) (kSt_if (kCd_not (kCd_Z (kE_call (kEs_snoc (kEs_snoc kEs_nil (kE_get (kE_aload_0 dX11_put_32) lf_RX11_16 dX11_put_33)) (kE_ic_1 dX11_put_36)) dX11_put_37 c_Web_hasRoom mv_Web_hasRoom lm_RX11_119 ⟨rfl, rfl, by decide, by decide⟩ (by decide)) (kZt_1 (tgt := 53) dX11_put_40 (by decide)))) kSt_throw kSt_skip)
  (kSt_seq (p1 := 63) (kSt_let (kE_call (kEs_snoc (kEs_snoc (kEs_snoc kEs_nil (kE_get (kE_aload_0 dX11_put_53) lf_RX11_48 dX11_put_54)) (kE_iload_1 dX11_put_57)) (kE_iload_2 dX11_put_58)) dX11_put_59 c_Row_tellRing mv_Row_tellRing lm_RX11_139 ⟨rfl, rfl, by decide, by decide⟩ (by decide)) (kSet_istore_3 dX11_put_62 (by decide)))
  (kSt_seq (p1 := 76) (kSt_if (kCd_and (kCd_Z (kE_iload_3 dX11_put_63) (kZf_1 (tgt := 76) dX11_put_64 (by decide))) (kCd_Z (kE_get (kE_aload_0 dX11_put_67) lf_RX11_7 dX11_put_68) (kZf_1 (tgt := 76) dX11_put_71 (by decide)))) (kSt_ret (tag := 0) (kE_ic_m1 dX11_put_74) ⟨fun _ => dX11_put_75, fun q => (by cases q), fun q => (by cases q)⟩) kSt_skip)
  (kSt_seq (p1 := 84) (kSt_E (kE_call (kEs_snoc kEs_nil (kE_get (kE_aload_0 dX11_put_76) lf_RX11_85 dX11_put_77)) dX11_put_80 c_Plan_forget mv_Plan_forget lm_RX11_106 ⟨rfl, rfl, by decide, by decide⟩ (by decide)) dX11_put_83)
  (kSt_ret (tag := 0) (kE_call (kEs_snoc (kEs_snoc (kEs_snoc (kEs_snoc kEs_nil (kE_aload_0 dX11_put_84)) (kE_iload_1 dX11_put_85)) (kE_iload_2 dX11_put_86)) (kE_iload_3 dX11_put_87)) dX11_put_88 c_KP_addArc mv_KP_addArc lm_RX11_125 ⟨rfl, rfl, by decide, by decide⟩ (by decide)) ⟨fun _ => dX11_put_91, fun q => (by cases q), fun q => (by cases q)⟩))))))
noncomputable def s_KP_take : kSx :=
  (sSeq (sIf (cNot (cZ 1 (eCall 10 F_Web_hasArc (eSnoc (eSnoc eNil (eGet 11 1 (eR 0))) (eI 1))))) (sThrow 11) sSkip)
  (sSeq (sE (eCall 4 F_Plan_forget (eSnoc eNil (eGet 11 9 (eR 0)))))
  (sSeq (sCall 10 F_Web_removeArc (eSnoc (eSnoc eNil (eGet 11 1 (eR 0))) (eI 1)))
  (sSeq (sCall 8 F_Trees_arcRemoved (eSnoc (eSnoc eNil (eGet 11 2 (eR 0))) (eI 1)))
  (sSeq (sCall 5 F_Row_arcRemoved (eSnoc (eSnoc eNil (eGet 11 5 (eR 0))) (eI 1)))
  (sSeq (sPut 11 12 (eR 0) (eCall 0 F_Chosen_arcChanged (eSnoc (eSnoc (eSnoc eNil (eGet 11 8 (eR 0))) (eAld 0 (eGet 10 0 (eGet 11 1 (eR 0))) (eI 1))) (eAld 0 (eGet 10 1 (eGet 11 1 (eR 0))) (eI 1)))))
  (sRet 0 (eCall 8 F_Trees_parts (eSnoc eNil (eGet 11 2 (eR 0)))))))))))
abbrev M_KP_take : kM := (cX11_take, yX11_take.cls, 2, { frames := 4, cells := 0, slots := 0, locals := 106 }, (some .int))
set_option maxRecDepth 20000 in
theorem b_KP_take : kSt M_KP_take 0 0 0 0 s_KP_take :=
  (kSt_seq (p1 := 21) (kSt_if (kCd_not (kCd_Z (kE_call (kEs_snoc (kEs_snoc kEs_nil (kE_get (kE_aload_0 dX11_take_0) lf_RX11_16 dX11_take_1)) (kE_iload_1 dX11_take_4)) dX11_take_5 c_Web_hasArc mv_Web_hasArc lm_RX11_143 ⟨rfl, rfl, by decide, by decide⟩ (by decide)) (kZt_1 (tgt := 21) dX11_take_8 (by decide)))) kSt_throw kSt_skip)
  (kSt_seq (p1 := 29) (kSt_E (kE_call (kEs_snoc kEs_nil (kE_get (kE_aload_0 dX11_take_21) lf_RX11_85 dX11_take_22)) dX11_take_25 c_Plan_forget mv_Plan_forget lm_RX11_106 ⟨rfl, rfl, by decide, by decide⟩ (by decide)) dX11_take_28)
  (kSt_seq (p1 := 37) (kSt_call (kEs_snoc (kEs_snoc kEs_nil (kE_get (kE_aload_0 dX11_take_29) lf_RX11_16 dX11_take_30)) (kE_iload_1 dX11_take_33)) dX11_take_34 c_Web_removeArc mv_Web_removeArc lm_RX11_148 ⟨rfl, rfl, by decide, by decide⟩)
  (kSt_seq (p1 := 45) (kSt_call (kEs_snoc (kEs_snoc kEs_nil (kE_get (kE_aload_0 dX11_take_37) lf_RX11_25 dX11_take_38)) (kE_iload_1 dX11_take_41)) dX11_take_42 c_Trees_arcRemoved mv_Trees_arcRemoved lm_RX11_152 ⟨rfl, rfl, by decide, by decide⟩)
  (kSt_seq (p1 := 53) (kSt_call (kEs_snoc (kEs_snoc kEs_nil (kE_get (kE_aload_0 dX11_take_45) lf_RX11_48 dX11_take_46)) (kE_iload_1 dX11_take_49)) dX11_take_50 c_Row_arcRemoved mv_Row_arcRemoved lm_RX11_155 ⟨rfl, rfl, by decide, by decide⟩)
  (kSt_seq (p1 := 82) (kSt_put (kE_aload_0 dX11_take_53) (kE_call (kEs_snoc (kEs_snoc (kEs_snoc kEs_nil (kE_get (kE_aload_0 dX11_take_54) lf_RX11_69 dX11_take_55)) (kE_iald (kE_get (kE_get (kE_aload_0 dX11_take_58) lf_RX11_16 dX11_take_59) lf_RX11_156 dX11_take_62) (kE_iload_1 dX11_take_65) dX11_take_66)) (kE_iald (kE_get (kE_get (kE_aload_0 dX11_take_67) lf_RX11_16 dX11_take_68) lf_RX11_160 dX11_take_71) (kE_iload_1 dX11_take_74) dX11_take_75)) dX11_take_76 c_Chosen_arcChanged mv_Chosen_arcChanged lm_RX11_163 ⟨rfl, rfl, by decide, by decide⟩ (by decide)) lp_RX11_92 dX11_take_79)
  (kSt_ret (tag := 0) (kE_call (kEs_snoc kEs_nil (kE_get (kE_aload_0 dX11_take_82) lf_RX11_25 dX11_take_83)) dX11_take_86 c_Trees_parts mv_Trees_parts lm_RX11_167 ⟨rfl, rfl, by decide, by decide⟩ (by decide)) ⟨fun _ => dX11_take_89, fun q => (by cases q), fun q => (by cases q)⟩)))))))
noncomputable def s_KP_weigh : kSx :=
  (sSeq (sIf (cNot (cZ 1 (eCall 10 F_Web_hasNode (eSnoc (eSnoc eNil (eGet 11 1 (eR 0))) (eI 1))))) (sThrow 11) sSkip)
  (sRet 0 (eCall 0 F_Chosen_reweigh (eSnoc (eSnoc (eSnoc eNil (eGet 11 8 (eR 0))) (eI 1)) (eI 2)))))
abbrev M_KP_weigh : kM := (cX11_weigh, yX11_weigh.cls, 3, { frames := 4, cells := 0, slots := 0, locals := 94 }, (some .int))
set_option maxRecDepth 20000 in
theorem b_KP_weigh : kSt M_KP_weigh 0 0 0 0 s_KP_weigh :=
  (kSt_seq (p1 := 21) (kSt_if (kCd_not (kCd_Z (kE_call (kEs_snoc (kEs_snoc kEs_nil (kE_get (kE_aload_0 dX11_weigh_0) lf_RX11_16 dX11_weigh_1)) (kE_iload_1 dX11_weigh_4)) dX11_weigh_5 c_Web_hasNode mv_Web_hasNode lm_RX11_129 ⟨rfl, rfl, by decide, by decide⟩ (by decide)) (kZt_1 (tgt := 21) dX11_weigh_8 (by decide)))) kSt_throw kSt_skip)
  (kSt_ret (tag := 0) (kE_call (kEs_snoc (kEs_snoc (kEs_snoc kEs_nil (kE_get (kE_aload_0 dX11_weigh_21) lf_RX11_69 dX11_weigh_22)) (kE_iload_1 dX11_weigh_25)) (kE_iload_2 dX11_weigh_26)) dX11_weigh_27 c_Chosen_reweigh mv_Chosen_reweigh lm_RX11_170 ⟨rfl, rfl, by decide, by decide⟩ (by decide)) ⟨fun _ => dX11_weigh_30, fun q => (by cases q), fun q => (by cases q)⟩))
noncomputable def s_KP_joined : kSx :=
  (sSeq (sIf (cOr (cNot (cZ 1 (eCall 10 F_Web_hasNode (eSnoc (eSnoc eNil (eGet 11 1 (eR 0))) (eI 1))))) (cNot (cZ 1 (eCall 10 F_Web_hasNode (eSnoc (eSnoc eNil (eGet 11 1 (eR 0))) (eI 2)))))) (sThrow 22) sSkip)
  (sRet 0 (eCall 8 F_Trees_together (eSnoc (eSnoc (eSnoc eNil (eGet 11 2 (eR 0))) (eI 1)) (eI 2)))))
abbrev M_KP_joined : kM := (cX11_joined, yX11_joined.cls, 3, { frames := 1, cells := 0, slots := 0, locals := 22 }, (some .boolean))
set_option maxRecDepth 20000 in
theorem b_KP_joined : kSt M_KP_joined 0 0 0 0 s_KP_joined :=
  (kSt_seq (p1 := 32) (kSt_if (kCd_or (kCd_not (kCd_Z (kE_call (kEs_snoc (kEs_snoc kEs_nil (kE_get (kE_aload_0 dX11_joined_0) lf_RX11_16 dX11_joined_1)) (kE_iload_1 dX11_joined_4)) dX11_joined_5 c_Web_hasNode mv_Web_hasNode lm_RX11_129 ⟨rfl, rfl, by decide, by decide⟩ (by decide)) (kZf_1 (tgt := 22) dX11_joined_8 (by decide)))) (kCd_not (kCd_Z (kE_call (kEs_snoc (kEs_snoc kEs_nil (kE_get (kE_aload_0 dX11_joined_11) lf_RX11_16 dX11_joined_12)) (kE_iload_2 dX11_joined_15)) dX11_joined_16 c_Web_hasNode mv_Web_hasNode lm_RX11_129 ⟨rfl, rfl, by decide, by decide⟩ (by decide)) (kZt_1 (tgt := 32) dX11_joined_19 (by decide))))) kSt_throw kSt_skip)
  (kSt_ret (tag := 0) (kE_call (kEs_snoc (kEs_snoc (kEs_snoc kEs_nil (kE_get (kE_aload_0 dX11_joined_32) lf_RX11_25 dX11_joined_33)) (kE_iload_1 dX11_joined_36)) (kE_iload_2 dX11_joined_37)) dX11_joined_38 c_Trees_together mv_Trees_together lm_RX11_173 ⟨rfl, rfl, by decide, by decide⟩ (by decide)) ⟨fun _ => dX11_joined_41, fun q => (by cases q), fun q => (by cases q)⟩))
noncomputable def s_KP_two : kSx :=
  (sSeq (sIf (cOr (cNot (cZ 1 (eCall 10 F_Web_hasNode (eSnoc (eSnoc eNil (eGet 11 1 (eR 0))) (eI 1))))) (cNot (cZ 1 (eCall 10 F_Web_hasNode (eSnoc (eSnoc eNil (eGet 11 1 (eR 0))) (eI 2)))))) (sThrow 22) sSkip)
  (sRet 0 (eCall 9 F_Twice_together (eSnoc (eSnoc (eSnoc eNil (eGet 11 4 (eR 0))) (eI 1)) (eI 2)))))
abbrev M_KP_two : kM := (cX11_two, yX11_two.cls, 3, { frames := 4, cells := 0, slots := 0, locals := 95 }, (some .boolean))
set_option maxRecDepth 20000 in
theorem b_KP_two : kSt M_KP_two 0 0 0 0 s_KP_two :=
  (kSt_seq (p1 := 32) (kSt_if (kCd_or (kCd_not (kCd_Z (kE_call (kEs_snoc (kEs_snoc kEs_nil (kE_get (kE_aload_0 dX11_two_0) lf_RX11_16 dX11_two_1)) (kE_iload_1 dX11_two_4)) dX11_two_5 c_Web_hasNode mv_Web_hasNode lm_RX11_129 ⟨rfl, rfl, by decide, by decide⟩ (by decide)) (kZf_1 (tgt := 22) dX11_two_8 (by decide)))) (kCd_not (kCd_Z (kE_call (kEs_snoc (kEs_snoc kEs_nil (kE_get (kE_aload_0 dX11_two_11) lf_RX11_16 dX11_two_12)) (kE_iload_2 dX11_two_15)) dX11_two_16 c_Web_hasNode mv_Web_hasNode lm_RX11_129 ⟨rfl, rfl, by decide, by decide⟩ (by decide)) (kZt_1 (tgt := 32) dX11_two_19 (by decide))))) kSt_throw kSt_skip)
  (kSt_ret (tag := 0) (kE_call (kEs_snoc (kEs_snoc (kEs_snoc kEs_nil (kE_get (kE_aload_0 dX11_two_32) lf_RX11_41 dX11_two_33)) (kE_iload_1 dX11_two_36)) (kE_iload_2 dX11_two_37)) dX11_two_38 c_Twice_together mv_Twice_together lm_RX11_176 ⟨rfl, rfl, by decide, by decide⟩ (by decide)) ⟨fun _ => dX11_two_41, fun q => (by cases q), fun q => (by cases q)⟩))
noncomputable def sw_KP_of (z : Int) : kSx := if z = 0 then (sRet 0 (eCall 0 F_Chosen_weightOf (eSnoc (eSnoc eNil (eGet 11 8 (eR 0))) (eI 1)))) else
  if z = 1 then (sRet 0 (eAld 0 (eGet 8 2 (eGet 11 2 (eR 0))) (eI 1))) else
  if z = 2 then (sRet 0 (eCall 7 F_Strong_leastOf (eSnoc (eSnoc eNil (eGet 11 6 (eR 0))) (eI 1)))) else
  if z = 3 then (sRet 0 (eCall 5 F_Row_placeOf (eSnoc (eSnoc eNil (eGet 11 5 (eR 0))) (eI 1)))) else
  if z = 4 then (sRet 0 (eCall 6 F_Sides_coreOf (eSnoc (eSnoc eNil (eGet 11 7 (eR 0))) (eI 1)))) else
  if z = 5 then (sRet 0 (eIf (cZ 1 (eCall 0 F_Chosen_has (eSnoc (eSnoc eNil (eGet 11 8 (eR 0))) (eI 1)))) (eK (1)) (eK (0)))) else
  if z = 6 then (sRet 0 (eCall 6 F_Sides_countOf (eSnoc (eSnoc eNil (eGet 11 7 (eR 0))) (eI 1)))) else
  if z = 7 then (sRet 0 (eAld 0 (eGet 8 5 (eGet 11 2 (eR 0))) (eI 1))) else
  if z = 8 then (sRet 0 (eIf (cC 0 (eCall 3 F_OddArcs_leastIn (eSnoc (eSnoc eNil (eGet 11 3 (eR 0))) (eI 1))) (eK (-1))) (eK (1)) (eK (0)))) else
  (sThrow 172)
noncomputable def s_KP_of : kSx :=
  (sSeq (sIf (cNot (cZ 1 (eCall 10 F_Web_hasNode (eSnoc (eSnoc eNil (eGet 11 1 (eR 0))) (eI 1))))) (sThrow 11) sSkip)
  (sSwitch (eI 2) sw_KP_of))
abbrev M_KP_of : kM := (cX11_of, yX11_of.cls, 3, { frames := 5, cells := 0, slots := 0, locals := 109 }, (some .int))
set_option maxRecDepth 20000 in
theorem b_KP_of : kSt M_KP_of 0 0 0 0 s_KP_of :=
  (kSt_seq (p1 := 21) (kSt_if (kCd_not (kCd_Z (kE_call (kEs_snoc (kEs_snoc kEs_nil (kE_get (kE_aload_0 dX11_of_0) lf_RX11_16 dX11_of_1)) (kE_iload_1 dX11_of_4)) dX11_of_5 c_Web_hasNode mv_Web_hasNode lm_RX11_129 ⟨rfl, rfl, by decide, by decide⟩ (by decide)) (kZt_1 (tgt := 21) dX11_of_8 (by decide)))) kSt_throw kSt_skip)
  (kSt_tsw (f := sw_KP_of) (kE_iload_2 dX11_of_21) dX11_of_22 (fun z => by
    unfold sw_KP_of
    by_cases h0 : z = 0
    · subst h0; exact ⟨72, Or.inr ⟨by decide, by decide, 50, rfl, by decide⟩, by
      first | (simp only [reduceIte, Int.reduceEq]; exact (kSt_ret (tag := 0) (kE_call (kEs_snoc (kEs_snoc kEs_nil (kE_get (kE_aload_0 dX11_of_72) lf_RX11_69 dX11_of_73)) (kE_iload_1 dX11_of_76)) dX11_of_77 c_Chosen_weightOf mv_Chosen_weightOf lm_RX11_177 ⟨rfl, rfl, by decide, by decide⟩ (by decide)) ⟨fun _ => dX11_of_80, fun q => (by cases q), fun q => (by cases q)⟩)) | (simp; exact (kSt_ret (tag := 0) (kE_call (kEs_snoc (kEs_snoc kEs_nil (kE_get (kE_aload_0 dX11_of_72) lf_RX11_69 dX11_of_73)) (kE_iload_1 dX11_of_76)) dX11_of_77 c_Chosen_weightOf mv_Chosen_weightOf lm_RX11_177 ⟨rfl, rfl, by decide, by decide⟩ (by decide)) ⟨fun _ => dX11_of_80, fun q => (by cases q), fun q => (by cases q)⟩))⟩
    by_cases h1 : z = 1
    · subst h1; exact ⟨81, Or.inr ⟨by decide, by decide, 59, rfl, by decide⟩, by
      first | (simp only [reduceIte, Int.reduceEq]; exact (kSt_ret (tag := 0) (kE_iald (kE_get (kE_get (kE_aload_0 dX11_of_81) lf_RX11_25 dX11_of_82) lf_RX11_180 dX11_of_85) (kE_iload_1 dX11_of_88) dX11_of_89) ⟨fun _ => dX11_of_90, fun q => (by cases q), fun q => (by cases q)⟩)) | (simp; exact (kSt_ret (tag := 0) (kE_iald (kE_get (kE_get (kE_aload_0 dX11_of_81) lf_RX11_25 dX11_of_82) lf_RX11_180 dX11_of_85) (kE_iload_1 dX11_of_88) dX11_of_89) ⟨fun _ => dX11_of_90, fun q => (by cases q), fun q => (by cases q)⟩))⟩
    by_cases h2 : z = 2
    · subst h2; exact ⟨91, Or.inr ⟨by decide, by decide, 69, rfl, by decide⟩, by
      first | (simp only [reduceIte, Int.reduceEq]; exact (kSt_ret (tag := 0) (kE_call (kEs_snoc (kEs_snoc kEs_nil (kE_get (kE_aload_0 dX11_of_91) lf_RX11_55 dX11_of_92)) (kE_iload_1 dX11_of_95)) dX11_of_96 c_Strong_leastOf mv_Strong_leastOf lm_RX11_183 ⟨rfl, rfl, by decide, by decide⟩ (by decide)) ⟨fun _ => dX11_of_99, fun q => (by cases q), fun q => (by cases q)⟩)) | (simp; exact (kSt_ret (tag := 0) (kE_call (kEs_snoc (kEs_snoc kEs_nil (kE_get (kE_aload_0 dX11_of_91) lf_RX11_55 dX11_of_92)) (kE_iload_1 dX11_of_95)) dX11_of_96 c_Strong_leastOf mv_Strong_leastOf lm_RX11_183 ⟨rfl, rfl, by decide, by decide⟩ (by decide)) ⟨fun _ => dX11_of_99, fun q => (by cases q), fun q => (by cases q)⟩))⟩
    by_cases h3 : z = 3
    · subst h3; exact ⟨100, Or.inr ⟨by decide, by decide, 78, rfl, by decide⟩, by
      first | (simp only [reduceIte, Int.reduceEq]; exact (kSt_ret (tag := 0) (kE_call (kEs_snoc (kEs_snoc kEs_nil (kE_get (kE_aload_0 dX11_of_100) lf_RX11_48 dX11_of_101)) (kE_iload_1 dX11_of_104)) dX11_of_105 c_Row_placeOf mv_Row_placeOf lm_RX11_186 ⟨rfl, rfl, by decide, by decide⟩ (by decide)) ⟨fun _ => dX11_of_108, fun q => (by cases q), fun q => (by cases q)⟩)) | (simp; exact (kSt_ret (tag := 0) (kE_call (kEs_snoc (kEs_snoc kEs_nil (kE_get (kE_aload_0 dX11_of_100) lf_RX11_48 dX11_of_101)) (kE_iload_1 dX11_of_104)) dX11_of_105 c_Row_placeOf mv_Row_placeOf lm_RX11_186 ⟨rfl, rfl, by decide, by decide⟩ (by decide)) ⟨fun _ => dX11_of_108, fun q => (by cases q), fun q => (by cases q)⟩))⟩
    by_cases h4 : z = 4
    · subst h4; exact ⟨109, Or.inr ⟨by decide, by decide, 87, rfl, by decide⟩, by
      first | (simp only [reduceIte, Int.reduceEq]; exact (kSt_ret (tag := 0) (kE_call (kEs_snoc (kEs_snoc kEs_nil (kE_get (kE_aload_0 dX11_of_109) lf_RX11_62 dX11_of_110)) (kE_iload_1 dX11_of_113)) dX11_of_114 c_Sides_coreOf mv_Sides_coreOf lm_RX11_189 ⟨rfl, rfl, by decide, by decide⟩ (by decide)) ⟨fun _ => dX11_of_117, fun q => (by cases q), fun q => (by cases q)⟩)) | (simp; exact (kSt_ret (tag := 0) (kE_call (kEs_snoc (kEs_snoc kEs_nil (kE_get (kE_aload_0 dX11_of_109) lf_RX11_62 dX11_of_110)) (kE_iload_1 dX11_of_113)) dX11_of_114 c_Sides_coreOf mv_Sides_coreOf lm_RX11_189 ⟨rfl, rfl, by decide, by decide⟩ (by decide)) ⟨fun _ => dX11_of_117, fun q => (by cases q), fun q => (by cases q)⟩))⟩
    by_cases h5 : z = 5
    · subst h5; exact ⟨118, Or.inr ⟨by decide, by decide, 96, rfl, by decide⟩, by
      first | (simp only [reduceIte, Int.reduceEq]; exact (kSt_ret (tag := 0) (kE_if (kCd_Z (kE_call (kEs_snoc (kEs_snoc kEs_nil (kE_get (kE_aload_0 dX11_of_118) lf_RX11_69 dX11_of_119)) (kE_iload_1 dX11_of_122)) dX11_of_123 c_Chosen_has mv_Chosen_has lm_RX11_192 ⟨rfl, rfl, by decide, by decide⟩ (by decide)) (kZf_1 (tgt := 133) dX11_of_126 (by decide))) (kE_goto (tgt := 134) (kE_ic_1 dX11_of_129) dX11_of_130 (by decide)) (kE_ic_0 dX11_of_133)) ⟨fun _ => dX11_of_134, fun q => (by cases q), fun q => (by cases q)⟩)) | (simp; exact (kSt_ret (tag := 0) (kE_if (kCd_Z (kE_call (kEs_snoc (kEs_snoc kEs_nil (kE_get (kE_aload_0 dX11_of_118) lf_RX11_69 dX11_of_119)) (kE_iload_1 dX11_of_122)) dX11_of_123 c_Chosen_has mv_Chosen_has lm_RX11_192 ⟨rfl, rfl, by decide, by decide⟩ (by decide)) (kZf_1 (tgt := 133) dX11_of_126 (by decide))) (kE_goto (tgt := 134) (kE_ic_1 dX11_of_129) dX11_of_130 (by decide)) (kE_ic_0 dX11_of_133)) ⟨fun _ => dX11_of_134, fun q => (by cases q), fun q => (by cases q)⟩))⟩
    by_cases h6 : z = 6
    · subst h6; exact ⟨135, Or.inr ⟨by decide, by decide, 113, rfl, by decide⟩, by
      first | (simp only [reduceIte, Int.reduceEq]; exact (kSt_ret (tag := 0) (kE_call (kEs_snoc (kEs_snoc kEs_nil (kE_get (kE_aload_0 dX11_of_135) lf_RX11_62 dX11_of_136)) (kE_iload_1 dX11_of_139)) dX11_of_140 c_Sides_countOf mv_Sides_countOf lm_RX11_195 ⟨rfl, rfl, by decide, by decide⟩ (by decide)) ⟨fun _ => dX11_of_143, fun q => (by cases q), fun q => (by cases q)⟩)) | (simp; exact (kSt_ret (tag := 0) (kE_call (kEs_snoc (kEs_snoc kEs_nil (kE_get (kE_aload_0 dX11_of_135) lf_RX11_62 dX11_of_136)) (kE_iload_1 dX11_of_139)) dX11_of_140 c_Sides_countOf mv_Sides_countOf lm_RX11_195 ⟨rfl, rfl, by decide, by decide⟩ (by decide)) ⟨fun _ => dX11_of_143, fun q => (by cases q), fun q => (by cases q)⟩))⟩
    by_cases h7 : z = 7
    · subst h7; exact ⟨144, Or.inr ⟨by decide, by decide, 122, rfl, by decide⟩, by
      first | (simp only [reduceIte, Int.reduceEq]; exact (kSt_ret (tag := 0) (kE_iald (kE_get (kE_get (kE_aload_0 dX11_of_144) lf_RX11_25 dX11_of_145) lf_RX11_198 dX11_of_148) (kE_iload_1 dX11_of_151) dX11_of_152) ⟨fun _ => dX11_of_153, fun q => (by cases q), fun q => (by cases q)⟩)) | (simp; exact (kSt_ret (tag := 0) (kE_iald (kE_get (kE_get (kE_aload_0 dX11_of_144) lf_RX11_25 dX11_of_145) lf_RX11_198 dX11_of_148) (kE_iload_1 dX11_of_151) dX11_of_152) ⟨fun _ => dX11_of_153, fun q => (by cases q), fun q => (by cases q)⟩))⟩
    by_cases h8 : z = 8
    · subst h8; exact ⟨154, Or.inr ⟨by decide, by decide, 132, rfl, by decide⟩, by
      first | (simp only [reduceIte, Int.reduceEq]; exact (kSt_ret (tag := 0) (kE_if (kCd_C (kE_call (kEs_snoc (kEs_snoc kEs_nil (kE_get (kE_aload_0 dX11_of_154) lf_RX11_34 dX11_of_155)) (kE_iload_1 dX11_of_158)) dX11_of_159 c_OddArcs_leastIn mv_OddArcs_leastIn lm_RX11_201 ⟨rfl, rfl, by decide, by decide⟩ (by decide)) (kE_ic_m1 dX11_of_162) (kJf_0 (tgt := 170) dX11_of_163 (by decide))) (kE_goto (tgt := 171) (kE_ic_1 dX11_of_166) dX11_of_167 (by decide)) (kE_ic_0 dX11_of_170)) ⟨fun _ => dX11_of_171, fun q => (by cases q), fun q => (by cases q)⟩)) | (simp; exact (kSt_ret (tag := 0) (kE_if (kCd_C (kE_call (kEs_snoc (kEs_snoc kEs_nil (kE_get (kE_aload_0 dX11_of_154) lf_RX11_34 dX11_of_155)) (kE_iload_1 dX11_of_158)) dX11_of_159 c_OddArcs_leastIn mv_OddArcs_leastIn lm_RX11_201 ⟨rfl, rfl, by decide, by decide⟩ (by decide)) (kE_ic_m1 dX11_of_162) (kJf_0 (tgt := 170) dX11_of_163 (by decide))) (kE_goto (tgt := 171) (kE_ic_1 dX11_of_166) dX11_of_167 (by decide)) (kE_ic_0 dX11_of_170)) ⟨fun _ => dX11_of_171, fun q => (by cases q), fun q => (by cases q)⟩))⟩
    refine ⟨172, Or.inl ⟨by omega, by decide⟩, ?_⟩
    simp only [h0, h1, h2, h3, h4, h5, h6, h7, h8]; exact kSt_throw)))
noncomputable def sw_KP_arc (z : Int) : kSx := if z = 0 then (sRet 0 (eAld 0 (eGet 10 0 (eGet 11 1 (eR 0))) (eI 1))) else
  if z = 1 then (sRet 0 (eAld 0 (eGet 10 1 (eGet 11 1 (eR 0))) (eI 1))) else
  if z = 2 then (sRet 0 (eAld 0 (eGet 8 0 (eGet 11 2 (eR 0))) (eI 1))) else
  if z = 3 then (sRet 0 (eIf (cZ 1 (eAld 1 (eGet 8 1 (eGet 11 2 (eR 0))) (eI 1))) (eK (1)) (eK (0)))) else
  if z = 4 then (sRet 0 (eIf (cZ 1 (eCall 3 F_OddArcs_has (eSnoc (eSnoc eNil (eGet 11 3 (eR 0))) (eI 1)))) (eK (1)) (eK (0)))) else
  if z = 5 then (sRet 0 (eIf (cZ 1 (eCall 9 F_Twice_isBridge (eSnoc (eSnoc eNil (eGet 11 4 (eR 0))) (eI 1)))) (eK (1)) (eK (0)))) else
  if z = 6 then (sRet 0 (eIf (cZ 1 (eAld 1 (eGet 5 0 (eGet 11 5 (eR 0))) (eI 1))) (eK (1)) (eK (0)))) else
  (sThrow 164)
noncomputable def s_KP_arc : kSx :=
  (sSeq (sIf (cNot (cZ 1 (eCall 10 F_Web_hasArc (eSnoc (eSnoc eNil (eGet 11 1 (eR 0))) (eI 1))))) (sThrow 11) sSkip)
  (sSwitch (eI 2) sw_KP_arc))
abbrev M_KP_arc : kM := (cX11_arc, yX11_arc.cls, 3, { frames := 5, cells := 0, slots := 0, locals := 116 }, (some .int))
set_option maxRecDepth 20000 in
theorem b_KP_arc : kSt M_KP_arc 0 0 0 0 s_KP_arc :=
  (kSt_seq (p1 := 21) (kSt_if (kCd_not (kCd_Z (kE_call (kEs_snoc (kEs_snoc kEs_nil (kE_get (kE_aload_0 dX11_arc_0) lf_RX11_16 dX11_arc_1)) (kE_iload_1 dX11_arc_4)) dX11_arc_5 c_Web_hasArc mv_Web_hasArc lm_RX11_143 ⟨rfl, rfl, by decide, by decide⟩ (by decide)) (kZt_1 (tgt := 21) dX11_arc_8 (by decide)))) kSt_throw kSt_skip)
  (kSt_tsw (f := sw_KP_arc) (kE_iload_2 dX11_arc_21) dX11_arc_22 (fun z => by
    unfold sw_KP_arc
    by_cases h0 : z = 0
    · subst h0; exact ⟨64, Or.inr ⟨by decide, by decide, 42, rfl, by decide⟩, by
      first | (simp only [reduceIte, Int.reduceEq]; exact (kSt_ret (tag := 0) (kE_iald (kE_get (kE_get (kE_aload_0 dX11_arc_64) lf_RX11_16 dX11_arc_65) lf_RX11_156 dX11_arc_68) (kE_iload_1 dX11_arc_71) dX11_arc_72) ⟨fun _ => dX11_arc_73, fun q => (by cases q), fun q => (by cases q)⟩)) | (simp; exact (kSt_ret (tag := 0) (kE_iald (kE_get (kE_get (kE_aload_0 dX11_arc_64) lf_RX11_16 dX11_arc_65) lf_RX11_156 dX11_arc_68) (kE_iload_1 dX11_arc_71) dX11_arc_72) ⟨fun _ => dX11_arc_73, fun q => (by cases q), fun q => (by cases q)⟩))⟩
    by_cases h1 : z = 1
    · subst h1; exact ⟨74, Or.inr ⟨by decide, by decide, 52, rfl, by decide⟩, by
      first | (simp only [reduceIte, Int.reduceEq]; exact (kSt_ret (tag := 0) (kE_iald (kE_get (kE_get (kE_aload_0 dX11_arc_74) lf_RX11_16 dX11_arc_75) lf_RX11_160 dX11_arc_78) (kE_iload_1 dX11_arc_81) dX11_arc_82) ⟨fun _ => dX11_arc_83, fun q => (by cases q), fun q => (by cases q)⟩)) | (simp; exact (kSt_ret (tag := 0) (kE_iald (kE_get (kE_get (kE_aload_0 dX11_arc_74) lf_RX11_16 dX11_arc_75) lf_RX11_160 dX11_arc_78) (kE_iload_1 dX11_arc_81) dX11_arc_82) ⟨fun _ => dX11_arc_83, fun q => (by cases q), fun q => (by cases q)⟩))⟩
    by_cases h2 : z = 2
    · subst h2; exact ⟨84, Or.inr ⟨by decide, by decide, 62, rfl, by decide⟩, by
      first | (simp only [reduceIte, Int.reduceEq]; exact (kSt_ret (tag := 0) (kE_iald (kE_get (kE_get (kE_aload_0 dX11_arc_84) lf_RX11_25 dX11_arc_85) lf_RX11_206 dX11_arc_88) (kE_iload_1 dX11_arc_91) dX11_arc_92) ⟨fun _ => dX11_arc_93, fun q => (by cases q), fun q => (by cases q)⟩)) | (simp; exact (kSt_ret (tag := 0) (kE_iald (kE_get (kE_get (kE_aload_0 dX11_arc_84) lf_RX11_25 dX11_arc_85) lf_RX11_206 dX11_arc_88) (kE_iload_1 dX11_arc_91) dX11_arc_92) ⟨fun _ => dX11_arc_93, fun q => (by cases q), fun q => (by cases q)⟩))⟩
    by_cases h3 : z = 3
    · subst h3; exact ⟨94, Or.inr ⟨by decide, by decide, 72, rfl, by decide⟩, by
      first | (simp only [reduceIte, Int.reduceEq]; exact (kSt_ret (tag := 0) (kE_if (kCd_Z (kE_zald (kE_get (kE_get (kE_aload_0 dX11_arc_94) lf_RX11_25 dX11_arc_95) lf_RX11_209 dX11_arc_98) (kE_iload_1 dX11_arc_101) dX11_arc_102) (kZf_1 (tgt := 110) dX11_arc_103 (by decide))) (kE_goto (tgt := 111) (kE_ic_1 dX11_arc_106) dX11_arc_107 (by decide)) (kE_ic_0 dX11_arc_110)) ⟨fun _ => dX11_arc_111, fun q => (by cases q), fun q => (by cases q)⟩)) | (simp; exact (kSt_ret (tag := 0) (kE_if (kCd_Z (kE_zald (kE_get (kE_get (kE_aload_0 dX11_arc_94) lf_RX11_25 dX11_arc_95) lf_RX11_209 dX11_arc_98) (kE_iload_1 dX11_arc_101) dX11_arc_102) (kZf_1 (tgt := 110) dX11_arc_103 (by decide))) (kE_goto (tgt := 111) (kE_ic_1 dX11_arc_106) dX11_arc_107 (by decide)) (kE_ic_0 dX11_arc_110)) ⟨fun _ => dX11_arc_111, fun q => (by cases q), fun q => (by cases q)⟩))⟩
    by_cases h4 : z = 4
    · subst h4; exact ⟨112, Or.inr ⟨by decide, by decide, 90, rfl, by decide⟩, by
      first | (simp only [reduceIte, Int.reduceEq]; exact (kSt_ret (tag := 0) (kE_if (kCd_Z (kE_call (kEs_snoc (kEs_snoc kEs_nil (kE_get (kE_aload_0 dX11_arc_112) lf_RX11_34 dX11_arc_113)) (kE_iload_1 dX11_arc_116)) dX11_arc_117 c_OddArcs_has mv_OddArcs_has lm_RX11_213 ⟨rfl, rfl, by decide, by decide⟩ (by decide)) (kZf_1 (tgt := 127) dX11_arc_120 (by decide))) (kE_goto (tgt := 128) (kE_ic_1 dX11_arc_123) dX11_arc_124 (by decide)) (kE_ic_0 dX11_arc_127)) ⟨fun _ => dX11_arc_128, fun q => (by cases q), fun q => (by cases q)⟩)) | (simp; exact (kSt_ret (tag := 0) (kE_if (kCd_Z (kE_call (kEs_snoc (kEs_snoc kEs_nil (kE_get (kE_aload_0 dX11_arc_112) lf_RX11_34 dX11_arc_113)) (kE_iload_1 dX11_arc_116)) dX11_arc_117 c_OddArcs_has mv_OddArcs_has lm_RX11_213 ⟨rfl, rfl, by decide, by decide⟩ (by decide)) (kZf_1 (tgt := 127) dX11_arc_120 (by decide))) (kE_goto (tgt := 128) (kE_ic_1 dX11_arc_123) dX11_arc_124 (by decide)) (kE_ic_0 dX11_arc_127)) ⟨fun _ => dX11_arc_128, fun q => (by cases q), fun q => (by cases q)⟩))⟩
    by_cases h5 : z = 5
    · subst h5; exact ⟨129, Or.inr ⟨by decide, by decide, 107, rfl, by decide⟩, by
      first | (simp only [reduceIte, Int.reduceEq]; exact (kSt_ret (tag := 0) (kE_if (kCd_Z (kE_call (kEs_snoc (kEs_snoc kEs_nil (kE_get (kE_aload_0 dX11_arc_129) lf_RX11_41 dX11_arc_130)) (kE_iload_1 dX11_arc_133)) dX11_arc_134 c_Twice_isBridge mv_Twice_isBridge lm_RX11_214 ⟨rfl, rfl, by decide, by decide⟩ (by decide)) (kZf_1 (tgt := 144) dX11_arc_137 (by decide))) (kE_goto (tgt := 145) (kE_ic_1 dX11_arc_140) dX11_arc_141 (by decide)) (kE_ic_0 dX11_arc_144)) ⟨fun _ => dX11_arc_145, fun q => (by cases q), fun q => (by cases q)⟩)) | (simp; exact (kSt_ret (tag := 0) (kE_if (kCd_Z (kE_call (kEs_snoc (kEs_snoc kEs_nil (kE_get (kE_aload_0 dX11_arc_129) lf_RX11_41 dX11_arc_130)) (kE_iload_1 dX11_arc_133)) dX11_arc_134 c_Twice_isBridge mv_Twice_isBridge lm_RX11_214 ⟨rfl, rfl, by decide, by decide⟩ (by decide)) (kZf_1 (tgt := 144) dX11_arc_137 (by decide))) (kE_goto (tgt := 145) (kE_ic_1 dX11_arc_140) dX11_arc_141 (by decide)) (kE_ic_0 dX11_arc_144)) ⟨fun _ => dX11_arc_145, fun q => (by cases q), fun q => (by cases q)⟩))⟩
    by_cases h6 : z = 6
    · subst h6; exact ⟨146, Or.inr ⟨by decide, by decide, 124, rfl, by decide⟩, by
      first | (simp only [reduceIte, Int.reduceEq]; exact (kSt_ret (tag := 0) (kE_if (kCd_Z (kE_zald (kE_get (kE_get (kE_aload_0 dX11_arc_146) lf_RX11_48 dX11_arc_147) lf_RX11_217 dX11_arc_150) (kE_iload_1 dX11_arc_153) dX11_arc_154) (kZf_1 (tgt := 162) dX11_arc_155 (by decide))) (kE_goto (tgt := 163) (kE_ic_1 dX11_arc_158) dX11_arc_159 (by decide)) (kE_ic_0 dX11_arc_162)) ⟨fun _ => dX11_arc_163, fun q => (by cases q), fun q => (by cases q)⟩)) | (simp; exact (kSt_ret (tag := 0) (kE_if (kCd_Z (kE_zald (kE_get (kE_get (kE_aload_0 dX11_arc_146) lf_RX11_48 dX11_arc_147) lf_RX11_217 dX11_arc_150) (kE_iload_1 dX11_arc_153) dX11_arc_154) (kZf_1 (tgt := 162) dX11_arc_155 (by decide))) (kE_goto (tgt := 163) (kE_ic_1 dX11_arc_158) dX11_arc_159 (by decide)) (kE_ic_0 dX11_arc_162)) ⟨fun _ => dX11_arc_163, fun q => (by cases q), fun q => (by cases q)⟩))⟩
    refine ⟨164, Or.inl ⟨by omega, by decide⟩, ?_⟩
    simp only [h0, h1, h2, h3, h4, h5, h6]; exact kSt_throw)))
noncomputable def s_KP_order : kSx :=
  (sSeq (sIf (cOr (cZ 2 (eI 1)) (cC 3 (eI 1) (eGet 10 3 (eGet 11 1 (eR 0))))) (sThrow 15) sSkip)
  (sRet 0 (eCall 5 F_Row_nodeAt (eSnoc (eSnoc eNil (eGet 11 5 (eR 0))) (eI 1)))))
abbrev M_KP_order : kM := (cX11_order, yX11_order.cls, 2, { frames := 1, cells := 0, slots := 0, locals := 21 }, (some .int))
set_option maxRecDepth 20000 in
theorem b_KP_order : kSt M_KP_order 0 0 0 0 s_KP_order :=
  (kSt_seq (p1 := 25) (kSt_if (kCd_or (kCd_Z (kE_iload_1 dX11_order_0) (kZt_2 (tgt := 15) dX11_order_1 (by decide))) (kCd_C (kE_iload_1 dX11_order_4) (kE_get (kE_get (kE_aload_0 dX11_order_5) lf_RX11_16 dX11_order_6) lf_RX11_96 dX11_order_9) (kJf_3 (tgt := 25) dX11_order_12 (by decide)))) kSt_throw kSt_skip)
  (kSt_ret (tag := 0) (kE_call (kEs_snoc (kEs_snoc kEs_nil (kE_get (kE_aload_0 dX11_order_25) lf_RX11_48 dX11_order_26)) (kE_iload_1 dX11_order_29)) dX11_order_30 c_Row_nodeAt mv_Row_nodeAt lm_RX11_222 ⟨rfl, rfl, by decide, by decide⟩ (by decide)) ⟨fun _ => dX11_order_33, fun q => (by cases q), fun q => (by cases q)⟩))
noncomputable def s_KP_odd : kSx :=
  (sSeq (sIf (cOr (cNot (cZ 1 (eCall 10 F_Web_hasNode (eSnoc (eSnoc eNil (eGet 11 1 (eR 0))) (eI 1))))) (cZ 2 (eI 2))) (sThrow 15) sSkip)
  (sRet 0 (eCall 3 F_OddArcs_ringArc (eSnoc (eSnoc (eSnoc eNil (eGet 11 3 (eR 0))) (eI 1)) (eI 2)))))
abbrev M_KP_odd : kM := (cX11_odd, yX11_odd.cls, 3, { frames := 3, cells := 0, slots := 0, locals := 77 }, (some .int))
set_option maxRecDepth 20000 in
theorem b_KP_odd : kSt M_KP_odd 0 0 0 0 s_KP_odd :=
  (kSt_seq (p1 := 25) (kSt_if (kCd_or (kCd_not (kCd_Z (kE_call (kEs_snoc (kEs_snoc kEs_nil (kE_get (kE_aload_0 dX11_odd_0) lf_RX11_16 dX11_odd_1)) (kE_iload_1 dX11_odd_4)) dX11_odd_5 c_Web_hasNode mv_Web_hasNode lm_RX11_129 ⟨rfl, rfl, by decide, by decide⟩ (by decide)) (kZf_1 (tgt := 15) dX11_odd_8 (by decide)))) (kCd_Z (kE_iload_2 dX11_odd_11) (kZf_2 (tgt := 25) dX11_odd_12 (by decide)))) kSt_throw kSt_skip)
  (kSt_ret (tag := 0) (kE_call (kEs_snoc (kEs_snoc (kEs_snoc kEs_nil (kE_get (kE_aload_0 dX11_odd_25) lf_RX11_34 dX11_odd_26)) (kE_iload_1 dX11_odd_29)) (kE_iload_2 dX11_odd_30)) dX11_odd_31 c_OddArcs_ringArc mv_OddArcs_ringArc lm_RX11_227 ⟨rfl, rfl, by decide, by decide⟩ (by decide)) ⟨fun _ => dX11_odd_34, fun q => (by cases q), fun q => (by cases q)⟩))
noncomputable def s_KP_ring : kSx :=
  (sSeq (sIf (cZ 2 (eI 1)) (sThrow 4) sSkip)
  (sRet 0 (eCall 5 F_Row_ringArc (eSnoc (eSnoc eNil (eGet 11 5 (eR 0))) (eI 1)))))
abbrev M_KP_ring : kM := (cX11_ring, yX11_ring.cls, 2, { frames := 1, cells := 0, slots := 0, locals := 21 }, (some .int))
set_option maxRecDepth 20000 in
theorem b_KP_ring : kSt M_KP_ring 0 0 0 0 s_KP_ring :=
  (kSt_seq (p1 := 14) (kSt_if (kCd_Z (kE_iload_1 dX11_ring_0) (kZf_2 (tgt := 14) dX11_ring_1 (by decide))) kSt_throw kSt_skip)
  (kSt_ret (tag := 0) (kE_call (kEs_snoc (kEs_snoc kEs_nil (kE_get (kE_aload_0 dX11_ring_14) lf_RX11_48 dX11_ring_15)) (kE_iload_1 dX11_ring_18)) dX11_ring_19 c_Row_ringArc mv_Row_ringArc lm_RX11_232 ⟨rfl, rfl, by decide, by decide⟩ (by decide)) ⟨fun _ => dX11_ring_22, fun q => (by cases q), fun q => (by cases q)⟩))
noncomputable def s_KP_triangles : kSx :=
  (sRet 2 (eCall 6 F_Sides_countedThrees (eSnoc eNil (eGet 11 7 (eR 0)))))
abbrev M_KP_triangles : kM := (cX11_triangles, yX11_triangles.cls, 1, { frames := 5, cells := 0, slots := 0, locals := 108 }, (some .long))
set_option maxRecDepth 20000 in
theorem b_KP_triangles : kSt M_KP_triangles 0 0 0 0 s_KP_triangles :=
  (kSt_ret (tag := 2) (kE_call (kEs_snoc kEs_nil (kE_get (kE_aload_0 dX11_triangles_0) lf_RX11_62 dX11_triangles_1)) dX11_triangles_4 c_Sides_countedThrees mv_Sides_countedThrees lm_RX11_234 ⟨rfl, rfl, by decide, by decide⟩ (by decide)) ⟨fun q => (by cases q), fun q => (by cases q), fun _ => dX11_triangles_7⟩)
noncomputable def F_KP_triangles : kFn := kF 1 kJl s_KP_triangles
theorem c_KP_triangles : kCon yX11_triangles cX11_triangles 1 (some .long) { frames := 5, cells := 0, slots := 0, locals := 108 } F_KP_triangles := kCon_of kEnds_J (by decide +kernel) (by decide) ⟨0, 0, 0, b_KP_triangles⟩
noncomputable def s_KP_planPut : kSx :=
  (sSeq (sIf (cOr (cNot (cZ 1 (eCall 10 F_Web_hasNode (eSnoc (eSnoc eNil (eGet 11 1 (eR 0))) (eI 1))))) (cNot (cZ 1 (eCall 10 F_Web_hasNode (eSnoc (eSnoc eNil (eGet 11 1 (eR 0))) (eI 2)))))) (sThrow 22) sSkip)
  (sSeq (sIf (cZ 1 (eCall 4 F_Plan_isFull (eSnoc eNil (eGet 11 9 (eR 0))))) (sThrow 42) sSkip)
  (sRet 0 (eCall 4 F_Plan_addPut (eSnoc (eSnoc (eSnoc eNil (eGet 11 9 (eR 0))) (eI 1)) (eI 2))))))
abbrev M_KP_planPut : kM := (cX11_planPut, yX11_planPut.cls, 3, { frames := 1, cells := 0, slots := 0, locals := 23 }, (some .int))
set_option maxRecDepth 20000 in
theorem b_KP_planPut : kSt M_KP_planPut 0 0 0 0 s_KP_planPut :=
  (kSt_seq (p1 := 32) (kSt_if (kCd_or (kCd_not (kCd_Z (kE_call (kEs_snoc (kEs_snoc kEs_nil (kE_get (kE_aload_0 dX11_planPut_0) lf_RX11_16 dX11_planPut_1)) (kE_iload_1 dX11_planPut_4)) dX11_planPut_5 c_Web_hasNode mv_Web_hasNode lm_RX11_129 ⟨rfl, rfl, by decide, by decide⟩ (by decide)) (kZf_1 (tgt := 22) dX11_planPut_8 (by decide)))) (kCd_not (kCd_Z (kE_call (kEs_snoc (kEs_snoc kEs_nil (kE_get (kE_aload_0 dX11_planPut_11) lf_RX11_16 dX11_planPut_12)) (kE_iload_2 dX11_planPut_15)) dX11_planPut_16 c_Web_hasNode mv_Web_hasNode lm_RX11_129 ⟨rfl, rfl, by decide, by decide⟩ (by decide)) (kZt_1 (tgt := 32) dX11_planPut_19 (by decide))))) kSt_throw kSt_skip)
  (kSt_seq (p1 := 52) (kSt_if (kCd_Z (kE_call (kEs_snoc kEs_nil (kE_get (kE_aload_0 dX11_planPut_32) lf_RX11_85 dX11_planPut_33)) dX11_planPut_36 c_Plan_isFull mv_Plan_isFull lm_RX11_238 ⟨rfl, rfl, by decide, by decide⟩ (by decide)) (kZf_1 (tgt := 52) dX11_planPut_39 (by decide))) kSt_throw kSt_skip)
  (kSt_ret (tag := 0) (kE_call (kEs_snoc (kEs_snoc (kEs_snoc kEs_nil (kE_get (kE_aload_0 dX11_planPut_52) lf_RX11_85 dX11_planPut_53)) (kE_iload_1 dX11_planPut_56)) (kE_iload_2 dX11_planPut_57)) dX11_planPut_58 c_Plan_addPut mv_Plan_addPut lm_RX11_244 ⟨rfl, rfl, by decide, by decide⟩ (by decide)) ⟨fun _ => dX11_planPut_61, fun q => (by cases q), fun q => (by cases q)⟩)))
noncomputable def s_KP_planTake : kSx :=
  (sSeq (sIf (cAnd (cNot (cZ 1 (eCall 10 F_Web_hasArc (eSnoc (eSnoc eNil (eGet 11 1 (eR 0))) (eI 1))))) (cNot (cZ 1 (eCall 4 F_Plan_puts (eSnoc (eSnoc eNil (eGet 11 9 (eR 0))) (eBin kSub (eK (-1)) (eI 1))))))) (sThrow 24) sSkip)
  (sSeq (sIf (cZ 1 (eCall 4 F_Plan_takes (eSnoc (eSnoc eNil (eGet 11 9 (eR 0))) (eI 1)))) (sThrow 45) sSkip)
  (sSeq (sIf (cZ 1 (eCall 4 F_Plan_isFull (eSnoc eNil (eGet 11 9 (eR 0))))) (sThrow 66) sSkip)
  (sRet 0 (eCall 4 F_Plan_addTake (eSnoc (eSnoc eNil (eGet 11 9 (eR 0))) (eI 1)))))))
abbrev M_KP_planTake : kM := (cX11_planTake, yX11_planTake.cls, 2, { frames := 2, cells := 0, slots := 0, locals := 44 }, (some .int))
set_option maxRecDepth 20000 in
theorem b_KP_planTake : kSt M_KP_planTake 0 0 0 0 s_KP_planTake :=
  (kSt_seq (p1 := 34) (kSt_if (kCd_and (kCd_not (kCd_Z (kE_call (kEs_snoc (kEs_snoc kEs_nil (kE_get (kE_aload_0 dX11_planTake_0) lf_RX11_16 dX11_planTake_1)) (kE_iload_1 dX11_planTake_4)) dX11_planTake_5 c_Web_hasArc mv_Web_hasArc lm_RX11_143 ⟨rfl, rfl, by decide, by decide⟩ (by decide)) (kZt_1 (tgt := 34) dX11_planTake_8 (by decide)))) (kCd_not (kCd_Z (kE_call (kEs_snoc (kEs_snoc kEs_nil (kE_get (kE_aload_0 dX11_planTake_11) lf_RX11_85 dX11_planTake_12)) (kE_bin (kE_ic_m1 dX11_planTake_15) (kE_iload_1 dX11_planTake_16) (kOp_sub dX11_planTake_17))) dX11_planTake_18 c_Plan_puts mv_Plan_puts lm_RX11_247 ⟨rfl, rfl, by decide, by decide⟩ (by decide)) (kZt_1 (tgt := 34) dX11_planTake_21 (by decide))))) kSt_throw kSt_skip)
  (kSt_seq (p1 := 56) (kSt_if (kCd_Z (kE_call (kEs_snoc (kEs_snoc kEs_nil (kE_get (kE_aload_0 dX11_planTake_34) lf_RX11_85 dX11_planTake_35)) (kE_iload_1 dX11_planTake_38)) dX11_planTake_39 c_Plan_takes mv_Plan_takes lm_RX11_252 ⟨rfl, rfl, by decide, by decide⟩ (by decide)) (kZf_1 (tgt := 56) dX11_planTake_42 (by decide))) kSt_throw kSt_skip)
  (kSt_seq (p1 := 76) (kSt_if (kCd_Z (kE_call (kEs_snoc kEs_nil (kE_get (kE_aload_0 dX11_planTake_56) lf_RX11_85 dX11_planTake_57)) dX11_planTake_60 c_Plan_isFull mv_Plan_isFull lm_RX11_238 ⟨rfl, rfl, by decide, by decide⟩ (by decide)) (kZf_1 (tgt := 76) dX11_planTake_63 (by decide))) kSt_throw kSt_skip)
  (kSt_ret (tag := 0) (kE_call (kEs_snoc (kEs_snoc kEs_nil (kE_get (kE_aload_0 dX11_planTake_76) lf_RX11_85 dX11_planTake_77)) (kE_iload_1 dX11_planTake_80)) dX11_planTake_81 c_Plan_addTake mv_Plan_addTake lm_RX11_260 ⟨rfl, rfl, by decide, by decide⟩ (by decide)) ⟨fun _ => dX11_planTake_84, fun q => (by cases q), fun q => (by cases q)⟩))))
noncomputable def sw_KP_later (z : Int) : kSx := if z = 0 then (sRet 0 (eGet 2 0 (eCall 4 F_Plan_behind (eSnoc (eSnoc eNil (eGet 11 9 (eR 0))) (eI 1))))) else
  if z = 1 then (sRet 0 (eGet 2 1 (eCall 4 F_Plan_behind (eSnoc (eSnoc eNil (eGet 11 9 (eR 0))) (eI 1))))) else
  if z = 2 then (sRet 0 (eGet 2 2 (eCall 4 F_Plan_behind (eSnoc (eSnoc eNil (eGet 11 9 (eR 0))) (eI 1))))) else
  if z = 3 then (sRet 0 (eCall 4 F_Plan_arcsBehind (eSnoc (eSnoc eNil (eGet 11 9 (eR 0))) (eI 1)))) else
  (sThrow 101)
noncomputable def s_KP_later : kSx :=
  (sSeq (sIf (cOr (cZ 2 (eI 1)) (cC 4 (eI 1) (eGet 4 0 (eGet 11 9 (eR 0))))) (sThrow 15) sSkip)
  (sSwitch (eI 2) sw_KP_later))
abbrev M_KP_later : kM := (cX11_later, yX11_later.cls, 3, { frames := 4, cells := 0, slots := 0, locals := 93 }, (some .int))
set_option maxRecDepth 20000 in
theorem b_KP_later : kSt M_KP_later 0 0 0 0 s_KP_later :=
  (kSt_seq (p1 := 26) (kSt_if (kCd_or (kCd_Z (kE_iload_1 dX11_later_0) (kZt_2 (tgt := 15) dX11_later_1 (by decide))) (kCd_C (kE_iload_1 dX11_later_4) (kE_get (kE_get (kE_aload_0 dX11_later_5) lf_RX11_85 dX11_later_6) lf_RX11_263 dX11_later_9) (kJf_4 (tgt := 26) dX11_later_12 (by decide)))) kSt_throw kSt_skip)
  (kSt_tsw (f := sw_KP_later) (kE_iload_2 dX11_later_26) dX11_later_27 (fun z => by
    unfold sw_KP_later
    by_cases h0 : z = 0
    · subst h0; exact ⟨56, Or.inr ⟨by decide, by decide, 29, rfl, by decide⟩, by
      first | (simp only [reduceIte, Int.reduceEq]; exact (kSt_ret (tag := 0) (kE_get (kE_call (kEs_snoc (kEs_snoc kEs_nil (kE_get (kE_aload_0 dX11_later_56) lf_RX11_85 dX11_later_57)) (kE_iload_1 dX11_later_60)) dX11_later_61 c_Plan_behind mv_Plan_behind lm_RX11_268 ⟨rfl, rfl, by decide, by decide⟩ (by decide)) lf_RX11_272 dX11_later_64) ⟨fun _ => dX11_later_67, fun q => (by cases q), fun q => (by cases q)⟩)) | (simp; exact (kSt_ret (tag := 0) (kE_get (kE_call (kEs_snoc (kEs_snoc kEs_nil (kE_get (kE_aload_0 dX11_later_56) lf_RX11_85 dX11_later_57)) (kE_iload_1 dX11_later_60)) dX11_later_61 c_Plan_behind mv_Plan_behind lm_RX11_268 ⟨rfl, rfl, by decide, by decide⟩ (by decide)) lf_RX11_272 dX11_later_64) ⟨fun _ => dX11_later_67, fun q => (by cases q), fun q => (by cases q)⟩))⟩
    by_cases h1 : z = 1
    · subst h1; exact ⟨68, Or.inr ⟨by decide, by decide, 41, rfl, by decide⟩, by
      first | (simp only [reduceIte, Int.reduceEq]; exact (kSt_ret (tag := 0) (kE_get (kE_call (kEs_snoc (kEs_snoc kEs_nil (kE_get (kE_aload_0 dX11_later_68) lf_RX11_85 dX11_later_69)) (kE_iload_1 dX11_later_72)) dX11_later_73 c_Plan_behind mv_Plan_behind lm_RX11_268 ⟨rfl, rfl, by decide, by decide⟩ (by decide)) lf_RX11_274 dX11_later_76) ⟨fun _ => dX11_later_79, fun q => (by cases q), fun q => (by cases q)⟩)) | (simp; exact (kSt_ret (tag := 0) (kE_get (kE_call (kEs_snoc (kEs_snoc kEs_nil (kE_get (kE_aload_0 dX11_later_68) lf_RX11_85 dX11_later_69)) (kE_iload_1 dX11_later_72)) dX11_later_73 c_Plan_behind mv_Plan_behind lm_RX11_268 ⟨rfl, rfl, by decide, by decide⟩ (by decide)) lf_RX11_274 dX11_later_76) ⟨fun _ => dX11_later_79, fun q => (by cases q), fun q => (by cases q)⟩))⟩
    by_cases h2 : z = 2
    · subst h2; exact ⟨80, Or.inr ⟨by decide, by decide, 53, rfl, by decide⟩, by
      first | (simp only [reduceIte, Int.reduceEq]; exact (kSt_ret (tag := 0) (kE_get (kE_call (kEs_snoc (kEs_snoc kEs_nil (kE_get (kE_aload_0 dX11_later_80) lf_RX11_85 dX11_later_81)) (kE_iload_1 dX11_later_84)) dX11_later_85 c_Plan_behind mv_Plan_behind lm_RX11_268 ⟨rfl, rfl, by decide, by decide⟩ (by decide)) lf_RX11_277 dX11_later_88) ⟨fun _ => dX11_later_91, fun q => (by cases q), fun q => (by cases q)⟩)) | (simp; exact (kSt_ret (tag := 0) (kE_get (kE_call (kEs_snoc (kEs_snoc kEs_nil (kE_get (kE_aload_0 dX11_later_80) lf_RX11_85 dX11_later_81)) (kE_iload_1 dX11_later_84)) dX11_later_85 c_Plan_behind mv_Plan_behind lm_RX11_268 ⟨rfl, rfl, by decide, by decide⟩ (by decide)) lf_RX11_277 dX11_later_88) ⟨fun _ => dX11_later_91, fun q => (by cases q), fun q => (by cases q)⟩))⟩
    by_cases h3 : z = 3
    · subst h3; exact ⟨92, Or.inr ⟨by decide, by decide, 65, rfl, by decide⟩, by
      first | (simp only [reduceIte, Int.reduceEq]; exact (kSt_ret (tag := 0) (kE_call (kEs_snoc (kEs_snoc kEs_nil (kE_get (kE_aload_0 dX11_later_92) lf_RX11_85 dX11_later_93)) (kE_iload_1 dX11_later_96)) dX11_later_97 c_Plan_arcsBehind mv_Plan_arcsBehind lm_RX11_280 ⟨rfl, rfl, by decide, by decide⟩ (by decide)) ⟨fun _ => dX11_later_100, fun q => (by cases q), fun q => (by cases q)⟩)) | (simp; exact (kSt_ret (tag := 0) (kE_call (kEs_snoc (kEs_snoc kEs_nil (kE_get (kE_aload_0 dX11_later_92) lf_RX11_85 dX11_later_93)) (kE_iload_1 dX11_later_96)) dX11_later_97 c_Plan_arcsBehind mv_Plan_arcsBehind lm_RX11_280 ⟨rfl, rfl, by decide, by decide⟩ (by decide)) ⟨fun _ => dX11_later_100, fun q => (by cases q), fun q => (by cases q)⟩))⟩
    refine ⟨101, Or.inl ⟨by omega, by decide⟩, ?_⟩
    simp only [h0, h1, h2, h3]; exact kSt_throw)))
noncomputable def s_KP_laterJoined : kSx :=
  (sSeq (sIf (cOr (cOr (cOr (cZ 2 (eI 1)) (cC 4 (eI 1) (eGet 4 0 (eGet 11 9 (eR 0))))) (cNot (cZ 1 (eCall 10 F_Web_hasNode (eSnoc (eSnoc eNil (eGet 11 1 (eR 0))) (eI 2)))))) (cNot (cZ 1 (eCall 10 F_Web_hasNode (eSnoc (eSnoc eNil (eGet 11 1 (eR 0))) (eI 3)))))) (sThrow 37) sSkip)
  (sRet 0 (eCall 2 F_Joiner_together (eSnoc (eSnoc (eSnoc eNil (eCall 4 F_Plan_behind (eSnoc (eSnoc eNil (eGet 11 9 (eR 0))) (eI 1)))) (eI 2)) (eI 3)))))
abbrev M_KP_laterJoined : kM := (cX11_laterJoined, yX11_laterJoined.cls, 4, { frames := 4, cells := 0, slots := 0, locals := 93 }, (some .boolean))
set_option maxRecDepth 20000 in
theorem b_KP_laterJoined : kSt M_KP_laterJoined 0 0 0 0 s_KP_laterJoined :=
  (kSt_seq (p1 := 48) (kSt_if (kCd_or (kCd_or (kCd_or (kCd_Z (kE_iload_1 dX11_laterJoined_0) (kZt_2 (tgt := 37) dX11_laterJoined_1 (by decide))) (kCd_C (kE_iload_1 dX11_laterJoined_4) (kE_get (kE_get (kE_aload_0 dX11_laterJoined_5) lf_RX11_85 dX11_laterJoined_6) lf_RX11_263 dX11_laterJoined_9) (kJt_4 (tgt := 37) dX11_laterJoined_12 (by decide)))) (kCd_not (kCd_Z (kE_call (kEs_snoc (kEs_snoc kEs_nil (kE_get (kE_aload_0 dX11_laterJoined_15) lf_RX11_16 dX11_laterJoined_16)) (kE_iload_2 dX11_laterJoined_19)) dX11_laterJoined_20 c_Web_hasNode mv_Web_hasNode lm_RX11_129 ⟨rfl, rfl, by decide, by decide⟩ (by decide)) (kZf_1 (tgt := 37) dX11_laterJoined_23 (by decide))))) (kCd_not (kCd_Z (kE_call (kEs_snoc (kEs_snoc kEs_nil (kE_get (kE_aload_0 dX11_laterJoined_26) lf_RX11_16 dX11_laterJoined_27)) (kE_iload_3 dX11_laterJoined_30)) dX11_laterJoined_31 c_Web_hasNode mv_Web_hasNode lm_RX11_129 ⟨rfl, rfl, by decide, by decide⟩ (by decide)) (kZt_1 (tgt := 48) dX11_laterJoined_34 (by decide))))) kSt_throw kSt_skip)
  (kSt_ret (tag := 0) (kE_call (kEs_snoc (kEs_snoc (kEs_snoc kEs_nil (kE_call (kEs_snoc (kEs_snoc kEs_nil (kE_get (kE_aload_0 dX11_laterJoined_48) lf_RX11_85 dX11_laterJoined_49)) (kE_iload_1 dX11_laterJoined_52)) dX11_laterJoined_53 c_Plan_behind mv_Plan_behind lm_RX11_268 ⟨rfl, rfl, by decide, by decide⟩ (by decide))) (kE_iload_2 dX11_laterJoined_56)) (kE_iload_3 dX11_laterJoined_57)) dX11_laterJoined_58 c_Joiner_together mv_Joiner_together lm_RX11_285 ⟨rfl, rfl, by decide, by decide⟩ (by decide)) ⟨fun _ => dX11_laterJoined_61, fun q => (by cases q), fun q => (by cases q)⟩))
noncomputable def s_KP_drop : kSx :=
  (sRet 0 (eCall 4 F_Plan_forget (eSnoc eNil (eGet 11 9 (eR 0)))))
abbrev M_KP_drop : kM := (cX11_drop, yX11_drop.cls, 1, { frames := 2, cells := 0, slots := 0, locals := 44 }, (some .int))
set_option maxRecDepth 20000 in
theorem b_KP_drop : kSt M_KP_drop 0 0 0 0 s_KP_drop :=
  (kSt_ret (tag := 0) (kE_call (kEs_snoc kEs_nil (kE_get (kE_aload_0 dX11_drop_0) lf_RX11_85 dX11_drop_1)) dX11_drop_4 c_Plan_forget mv_Plan_forget lm_RX11_106 ⟨rfl, rfl, by decide, by decide⟩ (by decide)) ⟨fun _ => dX11_drop_7, fun q => (by cases q), fun q => (by cases q)⟩)
noncomputable def F_KP_drop : kFn := kF 1 kI s_KP_drop
theorem c_KP_drop : kCon yX11_drop cX11_drop 1 (some .int) { frames := 2, cells := 0, slots := 0, locals := 44 } F_KP_drop := kCon_of kEnds_I (by decide +kernel) (by decide) ⟨0, 0, 0, b_KP_drop⟩
