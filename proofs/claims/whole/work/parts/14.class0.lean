noncomputable def l_Ar_fill_1 : kSx := sFor 4 (cC 2 (eI 2) (eI 3))
  (sAst 0 (eR 0) (eI 2) (eI 1))
  (sInc 2 (1))
noncomputable def s_Ar_fill : kSx :=
  (sSeq (sTrunc 2 (sSeq (sSeq (sLet 0 2 (eK (0))) (sLet 0 3 (eLen (eR 0)))) l_Ar_fill_1)) sRetV)
abbrev M_Ar_fill : kM := (cJ7_fill_53178, yJ7_fill_53178.cls, 4, { frames := 0, cells := 0, slots := 0, locals := 0 }, none)
set_option maxRecDepth 20000 in
theorem b_Ar_fill : kSt M_Ar_fill 0 0 0 0 s_Ar_fill :=
  (kSt_seq (kSt_trunc (kSt_seq (kSt_seq (kSt_let (kE_ic_0 dJ7_fill_53178_0) (kSet_istore_2 dJ7_fill_53178_1 (by decide))) (kSt_let (kE_alen (kE_aload_0 dJ7_fill_53178_2) dJ7_fill_53178_3) (kSet_istore_3 dJ7_fill_53178_4 (by decide)))) (kSt_for (pu := 14) (pt := 10) (kCd_C (kE_iload_2 dJ7_fill_53178_5) (kE_iload_3 dJ7_fill_53178_6) (kJf_2 (tgt := 20) dJ7_fill_53178_7 (by decide))) (kSt_iast (kE_aload_0 dJ7_fill_53178_10) (kE_iload_2 dJ7_fill_53178_11) (kE_iload_1 dJ7_fill_53178_12) dJ7_fill_53178_13) (kSt_goto (tgt := 5) (kSt_inc dJ7_fill_53178_14 (by decide)) dJ7_fill_53178_17 (by decide))))) (kSt_retV dJ7_fill_53178_20))
noncomputable def F_Ar_fill : kFn := kF 2 kN s_Ar_fill
theorem c_Ar_fill : kCon yJ7_fill_53178 cJ7_fill_53178 4 none { frames := 0, cells := 0, slots := 0, locals := 0 } F_Ar_fill := kCon_of kEnds_V (by decide +kernel) (by decide) ⟨0, 0, 0, b_Ar_fill⟩
noncomputable def s_Fan_addNode : kSx :=
  (sSeq (sSeq (sAst 0 (eGet 1 1 (eR 0)) (eBin kAdd (eGet 1 2 (eR 0)) (eK (1))) (eGet 1 3 (eR 0)))
  (sPutOp 1 2 (eR 0) kAdd (eK (1)))) sRetV)
abbrev M_Fan_addNode : kM := (cX1_addNode, yX1_addNode.cls, 1, { frames := 0, cells := 0, slots := 0, locals := 0 }, none)
set_option maxRecDepth 20000 in
theorem b_Fan_addNode : kSt M_Fan_addNode 0 0 0 0 s_Fan_addNode :=
  (kSt_seq (kSt_seq (p1 := 15) (kSt_iast (kE_get (kE_aload_0 dX1_addNode_0) lf_RX1_15 dX1_addNode_1) (kE_bin (kE_get (kE_aload_0 dX1_addNode_4) lf_RX1_18 dX1_addNode_5) (kE_ic_1 dX1_addNode_8) (kOp_add dX1_addNode_9)) (kE_get (kE_aload_0 dX1_addNode_10) lf_RX1_22 dX1_addNode_11) dX1_addNode_14)
  (kSt_putOp (kE_aload_0 dX1_addNode_15) dX1_addNode_16 lf_RX1_18 dX1_addNode_17 (kE_ic_1 dX1_addNode_20) (kOp_add dX1_addNode_21) lp_RX1_18 dX1_addNode_22)) (kSt_retV dX1_addNode_25))
noncomputable def F_Fan_addNode : kFn := kF 1 kN s_Fan_addNode
theorem c_Fan_addNode : kCon yX1_addNode cX1_addNode 1 none { frames := 0, cells := 0, slots := 0, locals := 0 } F_Fan_addNode := kCon_of kEnds_V (by decide +kernel) (by decide) ⟨0, 0, 0, b_Fan_addNode⟩
noncomputable def l_Fan_addArc_1 : kSx := sFor 5 (cC 4 (eI 4) (eI 3))
  (sAst 0 (eGet 1 0 (eR 0)) (eI 4) (eAld 0 (eGet 1 0 (eR 0)) (eBin kSub (eI 4) (eK (1)))))
  (sInc 4 (-1))
noncomputable def l_Fan_addArc_2 : kSx := sFor 5 (cC 5 (eI 4) (eGet 1 2 (eR 0)))
  (sAstOp (eGet 1 1 (eR 0)) (eI 4) kAdd (eK (1)))
  (sInc 4 (1))
noncomputable def s_Fan_addArc : kSx :=
  (sSeq (sSeq (sLet 0 3 (eAld 0 (eGet 1 1 (eR 0)) (eBin kAdd (eI 1) (eK (1)))))
  (sSeq (sTrunc 4 (sSeq (sLet 0 4 (eGet 1 3 (eR 0))) l_Fan_addArc_1))
  (sSeq (sAst 0 (eGet 1 0 (eR 0)) (eI 3) (eI 2))
  (sSeq (sPutOp 1 3 (eR 0) kAdd (eK (1)))
  (sTrunc 4 (sSeq (sLet 0 4 (eBin kAdd (eI 1) (eK (1)))) l_Fan_addArc_2)))))) sRetV)
abbrev M_Fan_addArc : kM := (cX1_addArc, yX1_addArc.cls, 5, { frames := 0, cells := 0, slots := 0, locals := 0 }, none)
set_option maxRecDepth 20000 in
theorem b_Fan_addArc : kSt M_Fan_addArc 0 0 0 0 s_Fan_addArc :=
  (kSt_seq (kSt_seq (p1 := 9) (kSt_let (kE_iald (kE_get (kE_aload_0 dX1_addArc_0) lf_RX1_15 dX1_addArc_1) (kE_bin (kE_iload_1 dX1_addArc_4) (kE_ic_1 dX1_addArc_5) (kOp_add dX1_addArc_6)) dX1_addArc_7) (kSet_istore_3 dX1_addArc_8 (by decide)))
  (kSt_seq (p1 := 43) (kSt_trunc (kSt_seq (kSt_let (kE_get (kE_aload_0 dX1_addArc_9) lf_RX1_22 dX1_addArc_10) (kSet_istore dX1_addArc_13 (by decide))) (kSt_for (pu := 37) (pt := 21) (kCd_C (kE_iload dX1_addArc_15) (kE_iload_3 dX1_addArc_17) (kJf_4 (tgt := 43) dX1_addArc_18 (by decide))) (kSt_iast (kE_get (kE_aload_0 dX1_addArc_21) lf_RX1_9 dX1_addArc_22) (kE_iload dX1_addArc_25) (kE_iald (kE_get (kE_aload_0 dX1_addArc_27) lf_RX1_9 dX1_addArc_28) (kE_bin (kE_iload dX1_addArc_31) (kE_ic_1 dX1_addArc_33) (kOp_sub dX1_addArc_34)) dX1_addArc_35) dX1_addArc_36) (kSt_goto (tgt := 15) (kSt_inc dX1_addArc_37 (by decide)) dX1_addArc_40 (by decide)))))
  (kSt_seq (p1 := 50) (kSt_iast (kE_get (kE_aload_0 dX1_addArc_43) lf_RX1_9 dX1_addArc_44) (kE_iload_3 dX1_addArc_47) (kE_iload_2 dX1_addArc_48) dX1_addArc_49)
  (kSt_seq (p1 := 60) (kSt_putOp (kE_aload_0 dX1_addArc_50) dX1_addArc_51 lf_RX1_22 dX1_addArc_52 (kE_ic_1 dX1_addArc_55) (kOp_add dX1_addArc_56) lp_RX1_22 dX1_addArc_57)
  (kSt_trunc (kSt_seq (kSt_let (kE_bin (kE_iload_1 dX1_addArc_60) (kE_ic_1 dX1_addArc_61) (kOp_add dX1_addArc_62)) (kSet_istore dX1_addArc_63 (by decide))) (kSt_for (pu := 85) (pt := 74) (kCd_C (kE_iload dX1_addArc_65) (kE_get (kE_aload_0 dX1_addArc_67) lf_RX1_18 dX1_addArc_68) (kJf_5 (tgt := 91) dX1_addArc_71 (by decide))) (kSt_iastOp (kE_get (kE_aload_0 dX1_addArc_74) lf_RX1_15 dX1_addArc_75) (kE_iload dX1_addArc_78) dX1_addArc_80 dX1_addArc_81 (kE_ic_1 dX1_addArc_82) (kOp_add dX1_addArc_83) dX1_addArc_84) (kSt_goto (tgt := 65) (kSt_inc dX1_addArc_85 (by decide)) dX1_addArc_88 (by decide))))))))) (kSt_retV dX1_addArc_91))
noncomputable def F_Fan_addArc : kFn := kF 3 kN s_Fan_addArc
theorem c_Fan_addArc : kCon yX1_addArc cX1_addArc 5 none { frames := 0, cells := 0, slots := 0, locals := 0 } F_Fan_addArc := kCon_of kEnds_V (by decide +kernel) (by decide) ⟨0, 0, 0, b_Fan_addArc⟩
noncomputable def l_KP_leaveOut_1 : kSx := sFor 5 (cC 2 (eI 4) (eI 1))
  (sIf (cC 1 (eAld 0 (eR 0) (eI 4)) (eI 2)) (sSeq (sAst 0 (eR 0) (eI 3) (eAld 0 (eR 0) (eI 4)))
  (sInc 3 (1))) sSkip)
  (sInc 4 (1))
noncomputable def s_KP_leaveOut : kSx :=
  (sSeq (sLet 0 3 (eK (0)))
  (sSeq (sTrunc 4 (sSeq (sLet 0 4 (eK (0))) l_KP_leaveOut_1))
  (sRet 0 (eI 3))))
abbrev M_KP_leaveOut : kM := (cX11_leaveOut, yX11_leaveOut.cls, 5, { frames := 0, cells := 0, slots := 0, locals := 0 }, (some .int))
set_option maxRecDepth 20000 in
theorem b_KP_leaveOut : kSt M_KP_leaveOut 0 0 0 0 s_KP_leaveOut :=
  (kSt_seq (p1 := 2) (kSt_let (kE_ic_0 dX11_leaveOut_0) (kSet_istore_3 dX11_leaveOut_1 (by decide)))
  (kSt_seq (p1 := 35) (kSt_trunc (kSt_seq (kSt_let (kE_ic_0 dX11_leaveOut_2) (kSet_istore dX11_leaveOut_3 (by decide))) (kSt_for (pu := 29) (pt := 11) (kCd_C (kE_iload dX11_leaveOut_5) (kE_iload_1 dX11_leaveOut_7) (kJf_2 (tgt := 35) dX11_leaveOut_8 (by decide))) (kSt_if (kCd_C (kE_iald (kE_aload_0 dX11_leaveOut_11) (kE_iload dX11_leaveOut_12) dX11_leaveOut_14) (kE_iload_2 dX11_leaveOut_15) (kJf_1 (tgt := 29) dX11_leaveOut_16 (by decide))) (kSt_seq (p1 := 26) (kSt_iast (kE_aload_0 dX11_leaveOut_19) (kE_iload_3 dX11_leaveOut_20) (kE_iald (kE_aload_0 dX11_leaveOut_21) (kE_iload dX11_leaveOut_22) dX11_leaveOut_24) dX11_leaveOut_25)
  (kSt_inc dX11_leaveOut_26 (by decide))) kSt_skip) (kSt_goto (tgt := 5) (kSt_inc dX11_leaveOut_29 (by decide)) dX11_leaveOut_32 (by decide)))))
  (kSt_ret (tag := 0) (kE_iload_3 dX11_leaveOut_35) ⟨fun _ => dX11_leaveOut_36, fun q => (by cases q), fun q => (by cases q)⟩)))
noncomputable def F_KP_leaveOut : kFn := kF 3 kI s_KP_leaveOut
theorem c_KP_leaveOut : kCon yX11_leaveOut cX11_leaveOut 5 (some .int) { frames := 0, cells := 0, slots := 0, locals := 0 } F_KP_leaveOut := kCon_of kEnds_I (by decide +kernel) (by decide) ⟨0, 0, 0, b_KP_leaveOut⟩
noncomputable def l_Fan_removeArc_1 : kSx := sFor 4 (cC 5 (eI 3) (eGet 1 2 (eR 0)))
  (sAstOp (eGet 1 1 (eR 0)) (eI 3) kSub (eK (1)))
  (sInc 3 (1))
noncomputable def s_Fan_removeArc : kSx :=
  (sSeq (sSeq (sPut 1 3 (eR 0) (eCallS F_KP_leaveOut (eSnoc (eSnoc (eSnoc eNil (eGet 1 0 (eR 0))) (eGet 1 3 (eR 0))) (eI 2))))
  (sTrunc 3 (sSeq (sLet 0 3 (eBin kAdd (eI 1) (eK (1)))) l_Fan_removeArc_1))) sRetV)
abbrev M_Fan_removeArc : kM := (cX1_removeArc, yX1_removeArc.cls, 4, { frames := 1, cells := 0, slots := 0, locals := 24 }, none)
set_option maxRecDepth 20000 in
theorem b_Fan_removeArc : kSt M_Fan_removeArc 0 0 0 0 s_Fan_removeArc :=
  (kSt_seq (kSt_seq (p1 := 16) (kSt_put (kE_aload_0 dX1_removeArc_0) (kE_callN (kEs_snoc (kEs_snoc (kEs_snoc kEs_nil (kE_get (kE_aload_0 dX1_removeArc_1) lf_RX1_9 dX1_removeArc_2)) (kE_get (kE_aload_0 dX1_removeArc_5) lf_RX1_22 dX1_removeArc_6)) (kE_iload_2 dX1_removeArc_9)) dX1_removeArc_10 c_KP_leaveOut mv_KP_leaveOut lm_RX1_25 ⟨rfl, rfl, by decide, by decide⟩ (by decide)) lp_RX1_22 dX1_removeArc_13)
  (kSt_trunc (kSt_seq (kSt_let (kE_bin (kE_iload_1 dX1_removeArc_16) (kE_ic_1 dX1_removeArc_17) (kOp_add dX1_removeArc_18)) (kSet_istore_3 dX1_removeArc_19 (by decide))) (kSt_for (pu := 38) (pt := 28) (kCd_C (kE_iload_3 dX1_removeArc_20) (kE_get (kE_aload_0 dX1_removeArc_21) lf_RX1_18 dX1_removeArc_22) (kJf_5 (tgt := 44) dX1_removeArc_25 (by decide))) (kSt_iastOp (kE_get (kE_aload_0 dX1_removeArc_28) lf_RX1_15 dX1_removeArc_29) (kE_iload_3 dX1_removeArc_32) dX1_removeArc_33 dX1_removeArc_34 (kE_ic_1 dX1_removeArc_35) (kOp_sub dX1_removeArc_36) dX1_removeArc_37) (kSt_goto (tgt := 20) (kSt_inc dX1_removeArc_38 (by decide)) dX1_removeArc_41 (by decide)))))) (kSt_retV dX1_removeArc_44))
noncomputable def F_Fan_removeArc : kFn := kF 3 kN s_Fan_removeArc
theorem c_Fan_removeArc : kCon yX1_removeArc cX1_removeArc 4 none { frames := 1, cells := 0, slots := 0, locals := 24 } F_Fan_removeArc := kCon_of kEnds_V (by decide +kernel) (by decide) ⟨0, 0, 0, b_Fan_removeArc⟩
noncomputable def s_Fan_empty : kSx :=
  (sSeq (sSeq (sPut 1 2 (eR 0) (eK (0)))
  (sPut 1 3 (eR 0) (eK (0)))) sRetV)
abbrev M_Fan_empty : kM := (cX1_empty, yX1_empty.cls, 1, { frames := 0, cells := 0, slots := 0, locals := 0 }, none)
set_option maxRecDepth 20000 in
theorem b_Fan_empty : kSt M_Fan_empty 0 0 0 0 s_Fan_empty :=
  (kSt_seq (kSt_seq (p1 := 5) (kSt_put (kE_aload_0 dX1_empty_0) (kE_ic_0 dX1_empty_1) lp_RX1_18 dX1_empty_2)
  (kSt_put (kE_aload_0 dX1_empty_5) (kE_ic_0 dX1_empty_6) lp_RX1_22 dX1_empty_7)) (kSt_retV dX1_empty_10))
noncomputable def F_Fan_empty : kFn := kF 1 kN s_Fan_empty
theorem c_Fan_empty : kCon yX1_empty cX1_empty 1 none { frames := 0, cells := 0, slots := 0, locals := 0 } F_Fan_empty := kCon_of kEnds_V (by decide +kernel) (by decide) ⟨0, 0, 0, b_Fan_empty⟩
noncomputable def l_Joiner_begin_1 : kSx := sFor 3 (cC 2 (eI 2) (eI 1))
  (sSeq (sAst 0 (eGet 2 3 (eR 0)) (eI 2) (eI 2))
  (sSeq (sAst 0 (eGet 2 4 (eR 0)) (eI 2) (eK (0)))
  (sSeq (sAst 0 (eGet 2 5 (eR 0)) (eI 2) (eK (1)))
  (sAst 1 (eGet 2 6 (eR 0)) (eI 2) (eK (0))))))
  (sInc 2 (1))
noncomputable def s_Joiner_begin : kSx :=
  (sSeq (sSeq (sTrunc 2 (sSeq (sLet 0 2 (eK (0))) l_Joiner_begin_1))
  (sSeq (sPut 2 0 (eR 0) (eI 1))
  (sSeq (sPut 2 1 (eR 0) (eI 1))
  (sPut 2 2 (eR 0) (eMin (eI 1) (eK (1))))))) sRetV)
abbrev M_Joiner_begin : kM := (cX2_begin, yX2_begin.cls, 3, { frames := 1, cells := 0, slots := 0, locals := 21 }, none)
set_option maxRecDepth 20000 in
theorem b_Joiner_begin : kSt M_Joiner_begin 0 0 0 0 s_Joiner_begin :=
  (kSt_seq (kSt_seq (p1 := 41) (kSt_trunc (kSt_seq (kSt_let (kE_ic_0 dX2_begin_0) (kSet_istore_2 dX2_begin_1 (by decide))) (kSt_for (pu := 35) (pt := 7) (kCd_C (kE_iload_2 dX2_begin_2) (kE_iload_1 dX2_begin_3) (kJf_2 (tgt := 41) dX2_begin_4 (by decide))) (kSt_seq (p1 := 14) (kSt_iast (kE_get (kE_aload_0 dX2_begin_7) lf_RX2_9 dX2_begin_8) (kE_iload_2 dX2_begin_11) (kE_iload_2 dX2_begin_12) dX2_begin_13)
  (kSt_seq (p1 := 21) (kSt_iast (kE_get (kE_aload_0 dX2_begin_14) lf_RX2_15 dX2_begin_15) (kE_iload_2 dX2_begin_18) (kE_ic_0 dX2_begin_19) dX2_begin_20)
  (kSt_seq (p1 := 28) (kSt_iast (kE_get (kE_aload_0 dX2_begin_21) lf_RX2_18 dX2_begin_22) (kE_iload_2 dX2_begin_25) (kE_ic_1 dX2_begin_26) dX2_begin_27)
  (kSt_zast (kE_get (kE_aload_0 dX2_begin_28) lf_RX2_21 dX2_begin_29) (kE_iload_2 dX2_begin_32) (kE_ic_0 dX2_begin_33) dX2_begin_34)))) (kSt_goto (tgt := 2) (kSt_inc dX2_begin_35 (by decide)) dX2_begin_38 (by decide)))))
  (kSt_seq (p1 := 46) (kSt_put (kE_aload_0 dX2_begin_41) (kE_iload_1 dX2_begin_42) lp_RX2_25 dX2_begin_43)
  (kSt_seq (p1 := 51) (kSt_put (kE_aload_0 dX2_begin_46) (kE_iload_1 dX2_begin_47) lp_RX2_29 dX2_begin_48)
  (kSt_put (kE_aload_0 dX2_begin_51) (kE_min (kE_iload_1 dX2_begin_52) (kE_ic_1 dX2_begin_53) dX2_begin_54 lM_RX2_32 mw_min ⟨by decide, by decide⟩ (by decide)) lp_RX2_38 dX2_begin_57)))) (kSt_retV dX2_begin_60))
noncomputable def F_Joiner_begin : kFn := kF 2 kN s_Joiner_begin
theorem c_Joiner_begin : kCon yX2_begin cX2_begin 3 none { frames := 1, cells := 0, slots := 0, locals := 21 } F_Joiner_begin := kCon_of kEnds_V (by decide +kernel) (by decide) ⟨0, 0, 0, b_Joiner_begin⟩
noncomputable def l_Joiner_headOf_1 : kSx := sFor 4 (cAnd (cC 2 (eI 3) (eK (300))) (cC 1 (eAld 0 (eGet 2 3 (eR 0)) (eI 2)) (eI 2)))
  (sLet 0 2 (eAld 0 (eGet 2 3 (eR 0)) (eI 2)))
  (sInc 3 (1))
noncomputable def s_Joiner_headOf : kSx :=
  (sSeq (sLet 0 2 (eI 1))
  (sSeq (sTrunc 3 (sSeq (sLet 0 3 (eK (0))) l_Joiner_headOf_1))
  (sRet 0 (eI 2))))
abbrev M_Joiner_headOf : kM := (cX2_headOf, yX2_headOf.cls, 4, { frames := 0, cells := 0, slots := 0, locals := 0 }, (some .int))
set_option maxRecDepth 20000 in
theorem b_Joiner_headOf : kSt M_Joiner_headOf 0 0 0 0 s_Joiner_headOf :=
  (kSt_seq (p1 := 2) (kSt_let (kE_iload_1 dX2_headOf_0) (kSet_istore_2 dX2_headOf_1 (by decide)))
  (kSt_seq (p1 := 34) (kSt_trunc (kSt_seq (kSt_let (kE_ic_0 dX2_headOf_2) (kSet_istore_3 dX2_headOf_3 (by decide))) (kSt_for (pu := 28) (pt := 21) (kCd_and (kCd_C (kE_iload_3 dX2_headOf_4) (kE_sipush dX2_headOf_5 (by rfl) ⟨by decide, by decide⟩) (kJf_2 (tgt := 34) dX2_headOf_8 (by decide))) (kCd_C (kE_iald (kE_get (kE_aload_0 dX2_headOf_11) lf_RX2_9 dX2_headOf_12) (kE_iload_2 dX2_headOf_15) dX2_headOf_16) (kE_iload_2 dX2_headOf_17) (kJf_1 (tgt := 34) dX2_headOf_18 (by decide)))) (kSt_let (kE_iald (kE_get (kE_aload_0 dX2_headOf_21) lf_RX2_9 dX2_headOf_22) (kE_iload_2 dX2_headOf_25) dX2_headOf_26) (kSet_istore_2 dX2_headOf_27 (by decide))) (kSt_goto (tgt := 4) (kSt_inc dX2_headOf_28 (by decide)) dX2_headOf_31 (by decide)))))
  (kSt_ret (tag := 0) (kE_iload_2 dX2_headOf_34) ⟨fun _ => dX2_headOf_35, fun q => (by cases q), fun q => (by cases q)⟩)))
noncomputable def F_Joiner_headOf : kFn := kF 2 kI s_Joiner_headOf
theorem c_Joiner_headOf : kCon yX2_headOf cX2_headOf 4 (some .int) { frames := 0, cells := 0, slots := 0, locals := 0 } F_Joiner_headOf := kCon_of kEnds_I (by decide +kernel) (by decide) ⟨0, 0, 0, b_Joiner_headOf⟩
noncomputable def s_Joiner_together : kSx :=
  (sRet 0 (eIf (cC 0 (eCall 2 F_Joiner_headOf (eSnoc (eSnoc eNil (eR 0)) (eI 1))) (eCall 2 F_Joiner_headOf (eSnoc (eSnoc eNil (eR 0)) (eI 2)))) (eK (1)) (eK (0))))
abbrev M_Joiner_together : kM := (cX2_together, yX2_together.cls, 3, { frames := 1, cells := 0, slots := 0, locals := 23 }, (some .boolean))
set_option maxRecDepth 20000 in
theorem b_Joiner_together : kSt M_Joiner_together 0 0 0 0 s_Joiner_together :=
  (kSt_ret (tag := 0) (kE_if (kCd_C (kE_call (kEs_snoc (kEs_snoc kEs_nil (kE_aload_0 dX2_together_0)) (kE_iload_1 dX2_together_1)) dX2_together_2 c_Joiner_headOf mv_Joiner_headOf lm_RX2_41 ⟨rfl, rfl, by decide, by decide⟩ (by decide)) (kE_call (kEs_snoc (kEs_snoc kEs_nil (kE_aload_0 dX2_together_5)) (kE_iload_2 dX2_together_6)) dX2_together_7 c_Joiner_headOf mv_Joiner_headOf lm_RX2_41 ⟨rfl, rfl, by decide, by decide⟩ (by decide)) (kJf_0 (tgt := 17) dX2_together_10 (by decide))) (kE_goto (tgt := 18) (kE_ic_1 dX2_together_13) dX2_together_14 (by decide)) (kE_ic_0 dX2_together_17)) ⟨fun _ => dX2_together_18, fun q => (by cases q), fun q => (by cases q)⟩)
noncomputable def F_Joiner_together : kFn := kF 3 kZ s_Joiner_together
theorem c_Joiner_together : kCon yX2_together cX2_together 3 (some .boolean) { frames := 1, cells := 0, slots := 0, locals := 23 } F_Joiner_together := kCon_of kEnds_Z (by decide +kernel) (by decide) ⟨0, 0, 0, b_Joiner_together⟩
noncomputable def l_Joiner_sideOf_1 : kSx := sFor 5 (cAnd (cC 2 (eI 4) (eK (300))) (cC 1 (eAld 0 (eGet 2 3 (eR 0)) (eI 2)) (eI 2)))
  (sSeq (sLet 0 3 (eBin kXor (eI 3) (eAld 0 (eGet 2 4 (eR 0)) (eI 2))))
  (sLet 0 2 (eAld 0 (eGet 2 3 (eR 0)) (eI 2))))
  (sInc 4 (1))
noncomputable def s_Joiner_sideOf : kSx :=
  (sSeq (sLet 0 2 (eI 1))
  (sSeq (sLet 0 3 (eK (0)))
  (sSeq (sTrunc 4 (sSeq (sLet 0 4 (eK (0))) l_Joiner_sideOf_1))
  (sRet 0 (eI 3)))))
abbrev M_Joiner_sideOf : kM := (cX2_sideOf, yX2_sideOf.cls, 5, { frames := 0, cells := 0, slots := 0, locals := 0 }, (some .int))
set_option maxRecDepth 20000 in
theorem b_Joiner_sideOf : kSt M_Joiner_sideOf 0 0 0 0 s_Joiner_sideOf :=
  (kSt_seq (p1 := 2) (kSt_let (kE_iload_1 dX2_sideOf_0) (kSet_istore_2 dX2_sideOf_1 (by decide)))
  (kSt_seq (p1 := 4) (kSt_let (kE_ic_0 dX2_sideOf_2) (kSet_istore_3 dX2_sideOf_3 (by decide)))
  (kSt_seq (p1 := 47) (kSt_trunc (kSt_seq (kSt_let (kE_ic_0 dX2_sideOf_4) (kSet_istore dX2_sideOf_5 (by decide))) (kSt_for (pu := 41) (pt := 25) (kCd_and (kCd_C (kE_iload dX2_sideOf_7) (kE_sipush dX2_sideOf_9 (by rfl) ⟨by decide, by decide⟩) (kJf_2 (tgt := 47) dX2_sideOf_12 (by decide))) (kCd_C (kE_iald (kE_get (kE_aload_0 dX2_sideOf_15) lf_RX2_9 dX2_sideOf_16) (kE_iload_2 dX2_sideOf_19) dX2_sideOf_20) (kE_iload_2 dX2_sideOf_21) (kJf_1 (tgt := 47) dX2_sideOf_22 (by decide)))) (kSt_seq (p1 := 34) (kSt_let (kE_bin (kE_iload_3 dX2_sideOf_25) (kE_iald (kE_get (kE_aload_0 dX2_sideOf_26) lf_RX2_15 dX2_sideOf_27) (kE_iload_2 dX2_sideOf_30) dX2_sideOf_31) (kOp_xor dX2_sideOf_32)) (kSet_istore_3 dX2_sideOf_33 (by decide)))
  (kSt_let (kE_iald (kE_get (kE_aload_0 dX2_sideOf_34) lf_RX2_9 dX2_sideOf_35) (kE_iload_2 dX2_sideOf_38) dX2_sideOf_39) (kSet_istore_2 dX2_sideOf_40 (by decide)))) (kSt_goto (tgt := 7) (kSt_inc dX2_sideOf_41 (by decide)) dX2_sideOf_44 (by decide)))))
  (kSt_ret (tag := 0) (kE_iload_3 dX2_sideOf_47) ⟨fun _ => dX2_sideOf_48, fun q => (by cases q), fun q => (by cases q)⟩))))
noncomputable def F_Joiner_sideOf : kFn := kF 2 kI s_Joiner_sideOf
theorem c_Joiner_sideOf : kCon yX2_sideOf cX2_sideOf 5 (some .int) { frames := 0, cells := 0, slots := 0, locals := 0 } F_Joiner_sideOf := kCon_of kEnds_I (by decide +kernel) (by decide) ⟨0, 0, 0, b_Joiner_sideOf⟩
noncomputable def s_Joiner_hang : kSx :=
  (sSeq (sSeq (sIf (cOr (cNot (cZ 1 (eAld 1 (eGet 2 6 (eR 0)) (eI 1)))) (cNot (cZ 1 (eAld 1 (eGet 2 6 (eR 0)) (eI 2))))) (sPutOp 2 1 (eR 0) kSub (eK (1))) sSkip)
  (sSeq (sPutOp 2 0 (eR 0) kSub (eK (1)))
  (sSeq (sAst 0 (eGet 2 3 (eR 0)) (eI 1) (eI 2))
  (sSeq (sAst 0 (eGet 2 4 (eR 0)) (eI 1) (eI 3))
  (sSeq (sAstOp (eGet 2 5 (eR 0)) (eI 2) kAdd (eAld 0 (eGet 2 5 (eR 0)) (eI 1)))
  (sSeq (sAst 1 (eGet 2 6 (eR 0)) (eI 2) (eIf (cOr (cZ 1 (eAld 1 (eGet 2 6 (eR 0)) (eI 2))) (cZ 1 (eAld 1 (eGet 2 6 (eR 0)) (eI 1)))) (eK (1)) (eK (0))))
  (sPut 2 2 (eR 0) (eMax (eGet 2 2 (eR 0)) (eAld 0 (eGet 2 5 (eR 0)) (eI 2)))))))))) sRetV)
abbrev M_Joiner_hang : kM := (cX2_hang, yX2_hang.cls, 4, { frames := 1, cells := 0, slots := 0, locals := 21 }, none)
set_option maxRecDepth 20000 in
theorem b_Joiner_hang : kSt M_Joiner_hang 0 0 0 0 s_Joiner_hang :=
  (kSt_seq (kSt_seq (p1 := 28) (kSt_if (kCd_or (kCd_not (kCd_Z (kE_zald (kE_get (kE_aload_0 dX2_hang_0) lf_RX2_21 dX2_hang_1) (kE_iload_1 dX2_hang_4) dX2_hang_5) (kZf_1 (tgt := 18) dX2_hang_6 (by decide)))) (kCd_not (kCd_Z (kE_zald (kE_get (kE_aload_0 dX2_hang_9) lf_RX2_21 dX2_hang_10) (kE_iload_2 dX2_hang_13) dX2_hang_14) (kZt_1 (tgt := 28) dX2_hang_15 (by decide))))) (kSt_putOp (kE_aload_0 dX2_hang_18) dX2_hang_19 lf_RX2_29 dX2_hang_20 (kE_ic_1 dX2_hang_23) (kOp_sub dX2_hang_24) lp_RX2_29 dX2_hang_25) kSt_skip)
  (kSt_seq (p1 := 38) (kSt_putOp (kE_aload_0 dX2_hang_28) dX2_hang_29 lf_RX2_25 dX2_hang_30 (kE_ic_1 dX2_hang_33) (kOp_sub dX2_hang_34) lp_RX2_25 dX2_hang_35)
  (kSt_seq (p1 := 45) (kSt_iast (kE_get (kE_aload_0 dX2_hang_38) lf_RX2_9 dX2_hang_39) (kE_iload_1 dX2_hang_42) (kE_iload_2 dX2_hang_43) dX2_hang_44)
  (kSt_seq (p1 := 52) (kSt_iast (kE_get (kE_aload_0 dX2_hang_45) lf_RX2_15 dX2_hang_46) (kE_iload_1 dX2_hang_49) (kE_iload_3 dX2_hang_50) dX2_hang_51)
  (kSt_seq (p1 := 67) (kSt_iastOp (kE_get (kE_aload_0 dX2_hang_52) lf_RX2_18 dX2_hang_53) (kE_iload_2 dX2_hang_56) dX2_hang_57 dX2_hang_58 (kE_iald (kE_get (kE_aload_0 dX2_hang_59) lf_RX2_18 dX2_hang_60) (kE_iload_1 dX2_hang_63) dX2_hang_64) (kOp_add dX2_hang_65) dX2_hang_66)
  (kSt_seq (p1 := 96) (kSt_zast (kE_get (kE_aload_0 dX2_hang_67) lf_RX2_21 dX2_hang_68) (kE_iload_2 dX2_hang_71) (kE_if (kCd_or (kCd_Z (kE_zald (kE_get (kE_aload_0 dX2_hang_72) lf_RX2_21 dX2_hang_73) (kE_iload_2 dX2_hang_76) dX2_hang_77) (kZt_1 (tgt := 90) dX2_hang_78 (by decide))) (kCd_Z (kE_zald (kE_get (kE_aload_0 dX2_hang_81) lf_RX2_21 dX2_hang_82) (kE_iload_1 dX2_hang_85) dX2_hang_86) (kZf_1 (tgt := 94) dX2_hang_87 (by decide)))) (kE_goto (tgt := 95) (kE_ic_1 dX2_hang_90) dX2_hang_91 (by decide)) (kE_ic_0 dX2_hang_94)) dX2_hang_95)
  (kSt_put (kE_aload_0 dX2_hang_96) (kE_max (kE_get (kE_aload_0 dX2_hang_97) lf_RX2_38 dX2_hang_98) (kE_iald (kE_get (kE_aload_0 dX2_hang_101) lf_RX2_18 dX2_hang_102) (kE_iload_2 dX2_hang_105) dX2_hang_106) dX2_hang_107 lM_RX2_52 mw_max ⟨by decide, by decide⟩ (by decide)) lp_RX2_38 dX2_hang_110))))))) (kSt_retV dX2_hang_113))
noncomputable def F_Joiner_hang : kFn := kF 4 kN s_Joiner_hang
theorem c_Joiner_hang : kCon yX2_hang cX2_hang 4 none { frames := 1, cells := 0, slots := 0, locals := 21 } F_Joiner_hang := kCon_of kEnds_V (by decide +kernel) (by decide) ⟨0, 0, 0, b_Joiner_hang⟩
noncomputable def s_Joiner_join : kSx :=
  (sSeq (sLet 0 3 (eCall 2 F_Joiner_headOf (eSnoc (eSnoc eNil (eR 0)) (eI 1))))
  (sSeq (sLet 0 4 (eCall 2 F_Joiner_headOf (eSnoc (eSnoc eNil (eR 0)) (eI 2))))
  (sSeq (sLet 0 5 (eBin kXor (eBin kXor (eCall 2 F_Joiner_sideOf (eSnoc (eSnoc eNil (eR 0)) (eI 1))) (eCall 2 F_Joiner_sideOf (eSnoc (eSnoc eNil (eR 0)) (eI 2)))) (eK (1))))
  (sSeq (sIf (cC 0 (eI 3) (eI 4)) (sSeq (sIf (cAnd (cC 0 (eI 5) (eK (1))) (cNot (cZ 1 (eAld 1 (eGet 2 6 (eR 0)) (eI 3))))) (sSeq (sAst 1 (eGet 2 6 (eR 0)) (eI 3) (eK (1)))
  (sPutOp 2 1 (eR 0) kSub (eK (1)))) sSkip)
  (sRet 0 (eK (0)))) sSkip)
  (sSeq (sLet 0 6 (eIf (cC 3 (eAld 0 (eGet 2 5 (eR 0)) (eI 3)) (eAld 0 (eGet 2 5 (eR 0)) (eI 4))) (eK (1)) (eK (0))))
  (sSeq (sCall 2 F_Joiner_hang (eSnoc (eSnoc (eSnoc (eSnoc eNil (eR 0)) (eIf (cZ 1 (eI 6)) (eI 4) (eI 3))) (eIf (cZ 1 (eI 6)) (eI 3) (eI 4))) (eI 5)))
  (sRet 0 (eK (1)))))))))
abbrev M_Joiner_join : kM := (cX2_join, yX2_join.cls, 7, { frames := 2, cells := 0, slots := 0, locals := 44 }, (some .boolean))
set_option maxRecDepth 20000 in
theorem b_Joiner_join : kSt M_Joiner_join 0 0 0 0 s_Joiner_join :=
  (kSt_seq (p1 := 6) (kSt_let (kE_call (kEs_snoc (kEs_snoc kEs_nil (kE_aload_0 dX2_join_0)) (kE_iload_1 dX2_join_1)) dX2_join_2 c_Joiner_headOf mv_Joiner_headOf lm_RX2_41 ⟨rfl, rfl, by decide, by decide⟩ (by decide)) (kSet_istore_3 dX2_join_5 (by decide)))
  (kSt_seq (p1 := 13) (kSt_let (kE_call (kEs_snoc (kEs_snoc kEs_nil (kE_aload_0 dX2_join_6)) (kE_iload_2 dX2_join_7)) dX2_join_8 c_Joiner_headOf mv_Joiner_headOf lm_RX2_41 ⟨rfl, rfl, by decide, by decide⟩ (by decide)) (kSet_istore dX2_join_11 (by decide)))
  (kSt_seq (p1 := 28) (kSt_let (kE_bin (kE_bin (kE_call (kEs_snoc (kEs_snoc kEs_nil (kE_aload_0 dX2_join_13)) (kE_iload_1 dX2_join_14)) dX2_join_15 c_Joiner_sideOf mv_Joiner_sideOf lm_RX2_45 ⟨rfl, rfl, by decide, by decide⟩ (by decide)) (kE_call (kEs_snoc (kEs_snoc kEs_nil (kE_aload_0 dX2_join_18)) (kE_iload_2 dX2_join_19)) dX2_join_20 c_Joiner_sideOf mv_Joiner_sideOf lm_RX2_45 ⟨rfl, rfl, by decide, by decide⟩ (by decide)) (kOp_xor dX2_join_23)) (kE_ic_1 dX2_join_24) (kOp_xor dX2_join_25)) (kSet_istore dX2_join_26 (by decide)))
  (kSt_seq (p1 := 68) (kSt_if (kCd_C (kE_iload_3 dX2_join_28) (kE_iload dX2_join_29) (kJf_0 (tgt := 68) dX2_join_31 (by decide))) (kSt_seq (p1 := 66) (kSt_if (kCd_and (kCd_C (kE_iload dX2_join_34) (kE_ic_1 dX2_join_36) (kJf_0 (tgt := 66) dX2_join_37 (by decide))) (kCd_not (kCd_Z (kE_zald (kE_get (kE_aload_0 dX2_join_40) lf_RX2_21 dX2_join_41) (kE_iload_3 dX2_join_44) dX2_join_45) (kZt_1 (tgt := 66) dX2_join_46 (by decide))))) (kSt_seq (p1 := 56) (kSt_zast (kE_get (kE_aload_0 dX2_join_49) lf_RX2_21 dX2_join_50) (kE_iload_3 dX2_join_53) (kE_ic_1 dX2_join_54) dX2_join_55)
  (kSt_putOp (kE_aload_0 dX2_join_56) dX2_join_57 lf_RX2_29 dX2_join_58 (kE_ic_1 dX2_join_61) (kOp_sub dX2_join_62) lp_RX2_29 dX2_join_63)) kSt_skip)
  (kSt_ret (tag := 0) (kE_ic_0 dX2_join_66) ⟨fun _ => dX2_join_67, fun q => (by cases q), fun q => (by cases q)⟩)) kSt_skip)
  (kSt_seq (p1 := 91) (kSt_let (kE_if (kCd_C (kE_iald (kE_get (kE_aload_0 dX2_join_68) lf_RX2_18 dX2_join_69) (kE_iload_3 dX2_join_72) dX2_join_73) (kE_iald (kE_get (kE_aload_0 dX2_join_74) lf_RX2_18 dX2_join_75) (kE_iload dX2_join_78) dX2_join_80) (kJf_3 (tgt := 88) dX2_join_81 (by decide))) (kE_goto (tgt := 89) (kE_ic_1 dX2_join_84) dX2_join_85 (by decide)) (kE_ic_0 dX2_join_88)) (kSet_istore dX2_join_89 (by decide)))
  (kSt_seq (p1 := 119) (kSt_call (kEs_snoc (kEs_snoc (kEs_snoc (kEs_snoc kEs_nil (kE_aload_0 dX2_join_91)) (kE_if (kCd_Z (kE_iload dX2_join_92) (kZf_1 (tgt := 102) dX2_join_94 (by decide))) (kE_goto (tgt := 103) (kE_iload dX2_join_97) dX2_join_99 (by decide)) (kE_iload_3 dX2_join_102))) (kE_if (kCd_Z (kE_iload dX2_join_103) (kZf_1 (tgt := 112) dX2_join_105 (by decide))) (kE_goto (tgt := 114) (kE_iload_3 dX2_join_108) dX2_join_109 (by decide)) (kE_iload dX2_join_112))) (kE_iload dX2_join_114)) dX2_join_116 c_Joiner_hang mv_Joiner_hang lm_RX2_48 ⟨rfl, rfl, by decide, by decide⟩)
  (kSt_ret (tag := 0) (kE_ic_1 dX2_join_119) ⟨fun _ => dX2_join_120, fun q => (by cases q), fun q => (by cases q)⟩)))))))
noncomputable def F_Joiner_join : kFn := kF 3 kZ s_Joiner_join
theorem c_Joiner_join : kCon yX2_join cX2_join 7 (some .boolean) { frames := 2, cells := 0, slots := 0, locals := 44 } F_Joiner_join := kCon_of kEnds_Z (by decide +kernel) (by decide) ⟨0, 0, 0, b_Joiner_join⟩
noncomputable def s_Web_hasNode : kSx :=
  (sRet 0 (eIf (cAnd (cZ 3 (eI 1)) (cC 2 (eI 1) (eGet 10 3 (eR 0)))) (eK (1)) (eK (0))))
abbrev M_Web_hasNode : kM := (cX10_hasNode, yX10_hasNode.cls, 2, { frames := 0, cells := 0, slots := 0, locals := 0 }, (some .boolean))
set_option maxRecDepth 20000 in
theorem b_Web_hasNode : kSt M_Web_hasNode 0 0 0 0 s_Web_hasNode :=
  (kSt_ret (tag := 0) (kE_if (kCd_and (kCd_Z (kE_iload_1 dX10_hasNode_0) (kZf_3 (tgt := 16) dX10_hasNode_1 (by decide))) (kCd_C (kE_iload_1 dX10_hasNode_4) (kE_get (kE_aload_0 dX10_hasNode_5) lf_RX10_35 dX10_hasNode_6) (kJf_2 (tgt := 16) dX10_hasNode_9 (by decide)))) (kE_goto (tgt := 17) (kE_ic_1 dX10_hasNode_12) dX10_hasNode_13 (by decide)) (kE_ic_0 dX10_hasNode_16)) ⟨fun _ => dX10_hasNode_17, fun q => (by cases q), fun q => (by cases q)⟩)
noncomputable def F_Web_hasNode : kFn := kF 2 kZ s_Web_hasNode
theorem c_Web_hasNode : kCon yX10_hasNode cX10_hasNode 2 (some .boolean) { frames := 0, cells := 0, slots := 0, locals := 0 } F_Web_hasNode := kCon_of kEnds_Z (by decide +kernel) (by decide) ⟨0, 0, 0, b_Web_hasNode⟩
noncomputable def s_Web_hasArc : kSx :=
  (sRet 0 (eIf (cAnd (cAnd (cZ 3 (eI 1)) (cC 2 (eI 1) (eGet 10 9 (eR 0)))) (cZ 1 (eAld 1 (eGet 10 8 (eR 0)) (eI 1)))) (eK (1)) (eK (0))))
abbrev M_Web_hasArc : kM := (cX10_hasArc, yX10_hasArc.cls, 2, { frames := 0, cells := 0, slots := 0, locals := 0 }, (some .boolean))
set_option maxRecDepth 20000 in
theorem b_Web_hasArc : kSt M_Web_hasArc 0 0 0 0 s_Web_hasArc :=
  (kSt_ret (tag := 0) (kE_if (kCd_and (kCd_and (kCd_Z (kE_iload_1 dX10_hasArc_0) (kZf_3 (tgt := 25) dX10_hasArc_1 (by decide))) (kCd_C (kE_iload_1 dX10_hasArc_4) (kE_get (kE_aload_0 dX10_hasArc_5) lf_RX10_39 dX10_hasArc_6) (kJf_2 (tgt := 25) dX10_hasArc_9 (by decide)))) (kCd_Z (kE_zald (kE_get (kE_aload_0 dX10_hasArc_12) lf_RX10_31 dX10_hasArc_13) (kE_iload_1 dX10_hasArc_16) dX10_hasArc_17) (kZf_1 (tgt := 25) dX10_hasArc_18 (by decide)))) (kE_goto (tgt := 26) (kE_ic_1 dX10_hasArc_21) dX10_hasArc_22 (by decide)) (kE_ic_0 dX10_hasArc_25)) ⟨fun _ => dX10_hasArc_26, fun q => (by cases q), fun q => (by cases q)⟩)
noncomputable def F_Web_hasArc : kFn := kF 2 kZ s_Web_hasArc
theorem c_Web_hasArc : kCon yX10_hasArc cX10_hasArc 2 (some .boolean) { frames := 0, cells := 0, slots := 0, locals := 0 } F_Web_hasArc := kCon_of kEnds_Z (by decide +kernel) (by decide) ⟨0, 0, 0, b_Web_hasArc⟩
noncomputable def s_Web_hasRoom : kSx :=
  (sRet 0 (eIf (cAnd (cC 5 (eI 1) (eBin kSub (eK (900)) (eGet 10 4 (eR 0)))) (cC 5 (eI 1) (eBin kSub (eK (5000)) (eGet 10 9 (eR 0))))) (eK (1)) (eK (0))))
abbrev M_Web_hasRoom : kM := (cX10_hasRoom, yX10_hasRoom.cls, 2, { frames := 0, cells := 0, slots := 0, locals := 0 }, (some .boolean))
set_option maxRecDepth 20000 in
theorem b_Web_hasRoom : kSt M_Web_hasRoom 0 0 0 0 s_Web_hasRoom :=
  (kSt_ret (tag := 0) (kE_if (kCd_and (kCd_C (kE_iload_1 dX10_hasRoom_0) (kE_bin (kE_sipush dX10_hasRoom_1 (by rfl) ⟨by decide, by decide⟩) (kE_get (kE_aload_0 dX10_hasRoom_4) lf_RX10_42 dX10_hasRoom_5) (kOp_sub dX10_hasRoom_8)) (kJf_5 (tgt := 28) dX10_hasRoom_9 (by decide))) (kCd_C (kE_iload_1 dX10_hasRoom_12) (kE_bin (kE_sipush dX10_hasRoom_13 (by rfl) ⟨by decide, by decide⟩) (kE_get (kE_aload_0 dX10_hasRoom_16) lf_RX10_39 dX10_hasRoom_17) (kOp_sub dX10_hasRoom_20)) (kJf_5 (tgt := 28) dX10_hasRoom_21 (by decide)))) (kE_goto (tgt := 29) (kE_ic_1 dX10_hasRoom_24) dX10_hasRoom_25 (by decide)) (kE_ic_0 dX10_hasRoom_28)) ⟨fun _ => dX10_hasRoom_29, fun q => (by cases q), fun q => (by cases q)⟩)
noncomputable def F_Web_hasRoom : kFn := kF 2 kZ s_Web_hasRoom
theorem c_Web_hasRoom : kCon yX10_hasRoom cX10_hasRoom 2 (some .boolean) { frames := 0, cells := 0, slots := 0, locals := 0 } F_Web_hasRoom := kCon_of kEnds_Z (by decide +kernel) (by decide) ⟨0, 0, 0, b_Web_hasRoom⟩
noncomputable def s_Web_addNode : kSx :=
  (sSeq (sLet 0 1 (eGet 10 3 (eR 0)))
  (sSeq (sCall 1 F_Fan_addNode (eSnoc eNil (eGet 10 6 (eR 0))))
  (sSeq (sCall 1 F_Fan_addNode (eSnoc eNil (eGet 10 7 (eR 0))))
  (sSeq (sPutOp 10 3 (eR 0) kAdd (eK (1)))
  (sSeq (sPutOp 10 5 (eR 0) kAdd (eK (1)))
  (sRet 0 (eI 1)))))))
abbrev M_Web_addNode : kM := (cX10_addNode, yX10_addNode.cls, 2, { frames := 1, cells := 0, slots := 0, locals := 20 }, (some .int))
set_option maxRecDepth 20000 in
theorem b_Web_addNode : kSt M_Web_addNode 0 0 0 0 s_Web_addNode :=
  (kSt_seq (p1 := 5) (kSt_let (kE_get (kE_aload_0 dX10_addNode_0) lf_RX10_35 dX10_addNode_1) (kSet_istore_1 dX10_addNode_4 (by decide)))
  (kSt_seq (p1 := 12) (kSt_call (kEs_snoc kEs_nil (kE_get (kE_aload_0 dX10_addNode_5) lf_RX10_24 dX10_addNode_6)) dX10_addNode_9 c_Fan_addNode mv_Fan_addNode lm_RX10_45 ⟨rfl, rfl, by decide, by decide⟩)
  (kSt_seq (p1 := 19) (kSt_call (kEs_snoc kEs_nil (kE_get (kE_aload_0 dX10_addNode_12) lf_RX10_28 dX10_addNode_13)) dX10_addNode_16 c_Fan_addNode mv_Fan_addNode lm_RX10_45 ⟨rfl, rfl, by decide, by decide⟩)
  (kSt_seq (p1 := 29) (kSt_putOp (kE_aload_0 dX10_addNode_19) dX10_addNode_20 lf_RX10_35 dX10_addNode_21 (kE_ic_1 dX10_addNode_24) (kOp_add dX10_addNode_25) lp_RX10_35 dX10_addNode_26)
  (kSt_seq (p1 := 39) (kSt_putOp (kE_aload_0 dX10_addNode_29) dX10_addNode_30 lf_RX10_48 dX10_addNode_31 (kE_ic_1 dX10_addNode_34) (kOp_add dX10_addNode_35) lp_RX10_48 dX10_addNode_36)
  (kSt_ret (tag := 0) (kE_iload_1 dX10_addNode_39) ⟨fun _ => dX10_addNode_40, fun q => (by cases q), fun q => (by cases q)⟩))))))
noncomputable def F_Web_addNode : kFn := kF 1 kI s_Web_addNode
theorem c_Web_addNode : kCon yX10_addNode cX10_addNode 2 (some .int) { frames := 1, cells := 0, slots := 0, locals := 20 } F_Web_addNode := kCon_of kEnds_I (by decide +kernel) (by decide) ⟨0, 0, 0, b_Web_addNode⟩
noncomputable def s_Web_addArc : kSx :=
  (sSeq (sLet 0 3 (eGet 10 9 (eR 0)))
  (sSeq (sAst 0 (eGet 10 0 (eR 0)) (eI 3) (eI 1))
  (sSeq (sAst 0 (eGet 10 1 (eR 0)) (eI 3) (eI 2))
  (sSeq (sAst 1 (eGet 10 8 (eR 0)) (eI 3) (eK (1)))
  (sSeq (sAst 0 (eGet 10 2 (eR 0)) (eGet 10 4 (eR 0)) (eI 3))
  (sSeq (sCall 1 F_Fan_addArc (eSnoc (eSnoc (eSnoc eNil (eGet 10 6 (eR 0))) (eI 1)) (eI 3)))
  (sSeq (sCall 1 F_Fan_addArc (eSnoc (eSnoc (eSnoc eNil (eGet 10 7 (eR 0))) (eI 2)) (eI 3)))
  (sSeq (sPutOp 10 9 (eR 0) kAdd (eK (1)))
  (sSeq (sPutOp 10 4 (eR 0) kAdd (eK (1)))
  (sSeq (sPutOp 10 5 (eR 0) kAdd (eK (1)))
  (sRet 0 (eI 3))))))))))))
abbrev M_Web_addArc : kM := (cX10_addArc, yX10_addArc.cls, 4, { frames := 1, cells := 0, slots := 0, locals := 24 }, (some .int))
set_option maxRecDepth 20000 in
theorem b_Web_addArc : kSt M_Web_addArc 0 0 0 0 s_Web_addArc :=
  (kSt_seq (p1 := 5) (kSt_let (kE_get (kE_aload_0 dX10_addArc_0) lf_RX10_39 dX10_addArc_1) (kSet_istore_3 dX10_addArc_4 (by decide)))
  (kSt_seq (p1 := 12) (kSt_iast (kE_get (kE_aload_0 dX10_addArc_5) lf_RX10_9 dX10_addArc_6) (kE_iload_3 dX10_addArc_9) (kE_iload_1 dX10_addArc_10) dX10_addArc_11)
  (kSt_seq (p1 := 19) (kSt_iast (kE_get (kE_aload_0 dX10_addArc_12) lf_RX10_15 dX10_addArc_13) (kE_iload_3 dX10_addArc_16) (kE_iload_2 dX10_addArc_17) dX10_addArc_18)
  (kSt_seq (p1 := 26) (kSt_zast (kE_get (kE_aload_0 dX10_addArc_19) lf_RX10_31 dX10_addArc_20) (kE_iload_3 dX10_addArc_23) (kE_ic_1 dX10_addArc_24) dX10_addArc_25)
  (kSt_seq (p1 := 36) (kSt_iast (kE_get (kE_aload_0 dX10_addArc_26) lf_RX10_18 dX10_addArc_27) (kE_get (kE_aload_0 dX10_addArc_30) lf_RX10_42 dX10_addArc_31) (kE_iload_3 dX10_addArc_34) dX10_addArc_35)
  (kSt_seq (p1 := 45) (kSt_call (kEs_snoc (kEs_snoc (kEs_snoc kEs_nil (kE_get (kE_aload_0 dX10_addArc_36) lf_RX10_24 dX10_addArc_37)) (kE_iload_1 dX10_addArc_40)) (kE_iload_3 dX10_addArc_41)) dX10_addArc_42 c_Fan_addArc mv_Fan_addArc lm_RX10_51 ⟨rfl, rfl, by decide, by decide⟩)
  (kSt_seq (p1 := 54) (kSt_call (kEs_snoc (kEs_snoc (kEs_snoc kEs_nil (kE_get (kE_aload_0 dX10_addArc_45) lf_RX10_28 dX10_addArc_46)) (kE_iload_2 dX10_addArc_49)) (kE_iload_3 dX10_addArc_50)) dX10_addArc_51 c_Fan_addArc mv_Fan_addArc lm_RX10_51 ⟨rfl, rfl, by decide, by decide⟩)
  (kSt_seq (p1 := 64) (kSt_putOp (kE_aload_0 dX10_addArc_54) dX10_addArc_55 lf_RX10_39 dX10_addArc_56 (kE_ic_1 dX10_addArc_59) (kOp_add dX10_addArc_60) lp_RX10_39 dX10_addArc_61)
  (kSt_seq (p1 := 74) (kSt_putOp (kE_aload_0 dX10_addArc_64) dX10_addArc_65 lf_RX10_42 dX10_addArc_66 (kE_ic_1 dX10_addArc_69) (kOp_add dX10_addArc_70) lp_RX10_42 dX10_addArc_71)
  (kSt_seq (p1 := 84) (kSt_putOp (kE_aload_0 dX10_addArc_74) dX10_addArc_75 lf_RX10_48 dX10_addArc_76 (kE_ic_1 dX10_addArc_79) (kOp_add dX10_addArc_80) lp_RX10_48 dX10_addArc_81)
  (kSt_ret (tag := 0) (kE_iload_3 dX10_addArc_84) ⟨fun _ => dX10_addArc_85, fun q => (by cases q), fun q => (by cases q)⟩)))))))))))
noncomputable def F_Web_addArc : kFn := kF 3 kI s_Web_addArc
theorem c_Web_addArc : kCon yX10_addArc cX10_addArc 4 (some .int) { frames := 1, cells := 0, slots := 0, locals := 24 } F_Web_addArc := kCon_of kEnds_I (by decide +kernel) (by decide) ⟨0, 0, 0, b_Web_addArc⟩
noncomputable def s_Web_removeArc : kSx :=
  (sSeq (sSeq (sPut 10 4 (eR 0) (eCallS F_KP_leaveOut (eSnoc (eSnoc (eSnoc eNil (eGet 10 2 (eR 0))) (eGet 10 4 (eR 0))) (eI 1))))
  (sSeq (sCall 1 F_Fan_removeArc (eSnoc (eSnoc (eSnoc eNil (eGet 10 6 (eR 0))) (eAld 0 (eGet 10 0 (eR 0)) (eI 1))) (eI 1)))
  (sSeq (sCall 1 F_Fan_removeArc (eSnoc (eSnoc (eSnoc eNil (eGet 10 7 (eR 0))) (eAld 0 (eGet 10 1 (eR 0)) (eI 1))) (eI 1)))
  (sSeq (sAst 1 (eGet 10 8 (eR 0)) (eI 1) (eK (0)))
  (sPutOp 10 5 (eR 0) kAdd (eK (1))))))) sRetV)
abbrev M_Web_removeArc : kM := (cX10_removeArc, yX10_removeArc.cls, 2, { frames := 2, cells := 0, slots := 0, locals := 47 }, none)
set_option maxRecDepth 20000 in
theorem b_Web_removeArc : kSt M_Web_removeArc 0 0 0 0 s_Web_removeArc :=
  (kSt_seq (kSt_seq (p1 := 16) (kSt_put (kE_aload_0 dX10_removeArc_0) (kE_callN (kEs_snoc (kEs_snoc (kEs_snoc kEs_nil (kE_get (kE_aload_0 dX10_removeArc_1) lf_RX10_18 dX10_removeArc_2)) (kE_get (kE_aload_0 dX10_removeArc_5) lf_RX10_42 dX10_removeArc_6)) (kE_iload_1 dX10_removeArc_9)) dX10_removeArc_10 c_KP_leaveOut mv_KP_leaveOut lm_RX10_55 ⟨rfl, rfl, by decide, by decide⟩ (by decide)) lp_RX10_42 dX10_removeArc_13)
  (kSt_seq (p1 := 30) (kSt_call (kEs_snoc (kEs_snoc (kEs_snoc kEs_nil (kE_get (kE_aload_0 dX10_removeArc_16) lf_RX10_24 dX10_removeArc_17)) (kE_iald (kE_get (kE_aload_0 dX10_removeArc_20) lf_RX10_9 dX10_removeArc_21) (kE_iload_1 dX10_removeArc_24) dX10_removeArc_25)) (kE_iload_1 dX10_removeArc_26)) dX10_removeArc_27 c_Fan_removeArc mv_Fan_removeArc lm_RX10_59 ⟨rfl, rfl, by decide, by decide⟩)
  (kSt_seq (p1 := 44) (kSt_call (kEs_snoc (kEs_snoc (kEs_snoc kEs_nil (kE_get (kE_aload_0 dX10_removeArc_30) lf_RX10_28 dX10_removeArc_31)) (kE_iald (kE_get (kE_aload_0 dX10_removeArc_34) lf_RX10_15 dX10_removeArc_35) (kE_iload_1 dX10_removeArc_38) dX10_removeArc_39)) (kE_iload_1 dX10_removeArc_40)) dX10_removeArc_41 c_Fan_removeArc mv_Fan_removeArc lm_RX10_59 ⟨rfl, rfl, by decide, by decide⟩)
  (kSt_seq (p1 := 51) (kSt_zast (kE_get (kE_aload_0 dX10_removeArc_44) lf_RX10_31 dX10_removeArc_45) (kE_iload_1 dX10_removeArc_48) (kE_ic_0 dX10_removeArc_49) dX10_removeArc_50)
  (kSt_putOp (kE_aload_0 dX10_removeArc_51) dX10_removeArc_52 lf_RX10_48 dX10_removeArc_53 (kE_ic_1 dX10_removeArc_56) (kOp_add dX10_removeArc_57) lp_RX10_48 dX10_removeArc_58))))) (kSt_retV dX10_removeArc_61))
noncomputable def F_Web_removeArc : kFn := kF 2 kN s_Web_removeArc
theorem c_Web_removeArc : kCon yX10_removeArc cX10_removeArc 2 none { frames := 2, cells := 0, slots := 0, locals := 47 } F_Web_removeArc := kCon_of kEnds_V (by decide +kernel) (by decide) ⟨0, 0, 0, b_Web_removeArc⟩
noncomputable def s_Web_empty : kSx :=
  (sSeq (sSeq (sPut 10 3 (eR 0) (eK (0)))
  (sSeq (sPut 10 4 (eR 0) (eK (0)))
  (sSeq (sPut 10 9 (eR 0) (eK (0)))
  (sSeq (sCall 1 F_Fan_empty (eSnoc eNil (eGet 10 6 (eR 0))))
  (sSeq (sCall 1 F_Fan_empty (eSnoc eNil (eGet 10 7 (eR 0))))
  (sPutOp 10 5 (eR 0) kAdd (eK (1)))))))) sRetV)
abbrev M_Web_empty : kM := (cX10_empty, yX10_empty.cls, 1, { frames := 1, cells := 0, slots := 0, locals := 20 }, none)
set_option maxRecDepth 20000 in
theorem b_Web_empty : kSt M_Web_empty 0 0 0 0 s_Web_empty :=
  (kSt_seq (kSt_seq (p1 := 5) (kSt_put (kE_aload_0 dX10_empty_0) (kE_ic_0 dX10_empty_1) lp_RX10_35 dX10_empty_2)
  (kSt_seq (p1 := 10) (kSt_put (kE_aload_0 dX10_empty_5) (kE_ic_0 dX10_empty_6) lp_RX10_42 dX10_empty_7)
  (kSt_seq (p1 := 15) (kSt_put (kE_aload_0 dX10_empty_10) (kE_ic_0 dX10_empty_11) lp_RX10_39 dX10_empty_12)
  (kSt_seq (p1 := 22) (kSt_call (kEs_snoc kEs_nil (kE_get (kE_aload_0 dX10_empty_15) lf_RX10_24 dX10_empty_16)) dX10_empty_19 c_Fan_empty mv_Fan_empty lm_RX10_62 ⟨rfl, rfl, by decide, by decide⟩)
  (kSt_seq (p1 := 29) (kSt_call (kEs_snoc kEs_nil (kE_get (kE_aload_0 dX10_empty_22) lf_RX10_28 dX10_empty_23)) dX10_empty_26 c_Fan_empty mv_Fan_empty lm_RX10_62 ⟨rfl, rfl, by decide, by decide⟩)
  (kSt_putOp (kE_aload_0 dX10_empty_29) dX10_empty_30 lf_RX10_48 dX10_empty_31 (kE_ic_1 dX10_empty_34) (kOp_add dX10_empty_35) lp_RX10_48 dX10_empty_36)))))) (kSt_retV dX10_empty_39))
noncomputable def F_Web_empty : kFn := kF 1 kN s_Web_empty
theorem c_Web_empty : kCon yX10_empty cX10_empty 1 none { frames := 1, cells := 0, slots := 0, locals := 20 } F_Web_empty := kCon_of kEnds_V (by decide +kernel) (by decide) ⟨0, 0, 0, b_Web_empty⟩
noncomputable def s_Web_other : kSx :=
  (sRet 0 (eIf (cC 0 (eAld 0 (eGet 10 0 (eR 0)) (eI 1)) (eI 2)) (eAld 0 (eGet 10 1 (eR 0)) (eI 1)) (eAld 0 (eGet 10 0 (eR 0)) (eI 1))))
abbrev M_Web_other : kM := (cX10_other, yX10_other.cls, 3, { frames := 0, cells := 0, slots := 0, locals := 0 }, (some .int))
set_option maxRecDepth 20000 in
theorem b_Web_other : kSt M_Web_other 0 0 0 0 s_Web_other :=
  (kSt_ret (tag := 0) (kE_if (kCd_C (kE_iald (kE_get (kE_aload_0 dX10_other_0) lf_RX10_9 dX10_other_1) (kE_iload_1 dX10_other_4) dX10_other_5) (kE_iload_2 dX10_other_6) (kJf_0 (tgt := 19) dX10_other_7 (by decide))) (kE_goto (tgt := 25) (kE_iald (kE_get (kE_aload_0 dX10_other_10) lf_RX10_15 dX10_other_11) (kE_iload_1 dX10_other_14) dX10_other_15) dX10_other_16 (by decide)) (kE_iald (kE_get (kE_aload_0 dX10_other_19) lf_RX10_9 dX10_other_20) (kE_iload_1 dX10_other_23) dX10_other_24)) ⟨fun _ => dX10_other_25, fun q => (by cases q), fun q => (by cases q)⟩)
noncomputable def F_Web_other : kFn := kF 3 kI s_Web_other
theorem c_Web_other : kCon yX10_other cX10_other 3 (some .int) { frames := 0, cells := 0, slots := 0, locals := 0 } F_Web_other := kCon_of kEnds_I (by decide +kernel) (by decide) ⟨0, 0, 0, b_Web_other⟩
noncomputable def s_Web_degree : kSx :=
  (sRet 0 (eBin kSub (eBin kAdd (eBin kSub (eAld 0 (eGet 1 1 (eGet 10 6 (eR 0))) (eBin kAdd (eI 1) (eK (1)))) (eAld 0 (eGet 1 1 (eGet 10 6 (eR 0))) (eI 1))) (eAld 0 (eGet 1 1 (eGet 10 7 (eR 0))) (eBin kAdd (eI 1) (eK (1))))) (eAld 0 (eGet 1 1 (eGet 10 7 (eR 0))) (eI 1))))
abbrev M_Web_degree : kM := (cX10_degree, yX10_degree.cls, 2, { frames := 0, cells := 0, slots := 0, locals := 0 }, (some .int))
set_option maxRecDepth 20000 in
theorem b_Web_degree : kSt M_Web_degree 0 0 0 0 s_Web_degree :=
  (kSt_ret (tag := 0) (kE_bin (kE_bin (kE_bin (kE_iald (kE_get (kE_get (kE_aload_0 dX10_degree_0) lf_RX10_24 dX10_degree_1) lf_RX10_65 dX10_degree_4) (kE_bin (kE_iload_1 dX10_degree_7) (kE_ic_1 dX10_degree_8) (kOp_add dX10_degree_9)) dX10_degree_10) (kE_iald (kE_get (kE_get (kE_aload_0 dX10_degree_11) lf_RX10_24 dX10_degree_12) lf_RX10_65 dX10_degree_15) (kE_iload_1 dX10_degree_18) dX10_degree_19) (kOp_sub dX10_degree_20)) (kE_iald (kE_get (kE_get (kE_aload_0 dX10_degree_21) lf_RX10_28 dX10_degree_22) lf_RX10_65 dX10_degree_25) (kE_bin (kE_iload_1 dX10_degree_28) (kE_ic_1 dX10_degree_29) (kOp_add dX10_degree_30)) dX10_degree_31) (kOp_add dX10_degree_32)) (kE_iald (kE_get (kE_get (kE_aload_0 dX10_degree_33) lf_RX10_28 dX10_degree_34) lf_RX10_65 dX10_degree_37) (kE_iload_1 dX10_degree_40) dX10_degree_41) (kOp_sub dX10_degree_42)) ⟨fun _ => dX10_degree_43, fun q => (by cases q), fun q => (by cases q)⟩)
noncomputable def F_Web_degree : kFn := kF 2 kI s_Web_degree
theorem c_Web_degree : kCon yX10_degree cX10_degree 2 (some .int) { frames := 0, cells := 0, slots := 0, locals := 0 } F_Web_degree := kCon_of kEnds_I (by decide +kernel) (by decide) ⟨0, 0, 0, b_Web_degree⟩
noncomputable def s_Web_arcAt : kSx :=
  (sSeq (sLet 0 3 (eBin kSub (eAld 0 (eGet 1 1 (eGet 10 6 (eR 0))) (eBin kAdd (eI 1) (eK (1)))) (eAld 0 (eGet 1 1 (eGet 10 6 (eR 0))) (eI 1))))
  (sRet 0 (eIf (cC 2 (eI 2) (eI 3)) (eAld 0 (eGet 1 0 (eGet 10 6 (eR 0))) (eBin kAdd (eAld 0 (eGet 1 1 (eGet 10 6 (eR 0))) (eI 1)) (eI 2))) (eAld 0 (eGet 1 0 (eGet 10 7 (eR 0))) (eBin kSub (eBin kAdd (eAld 0 (eGet 1 1 (eGet 10 7 (eR 0))) (eI 1)) (eI 2)) (eI 3))))))
abbrev M_Web_arcAt : kM := (cX10_arcAt, yX10_arcAt.cls, 4, { frames := 0, cells := 0, slots := 0, locals := 0 }, (some .int))
set_option maxRecDepth 20000 in
theorem b_Web_arcAt : kSt M_Web_arcAt 0 0 0 0 s_Web_arcAt :=
  (kSt_seq (p1 := 22) (kSt_let (kE_bin (kE_iald (kE_get (kE_get (kE_aload_0 dX10_arcAt_0) lf_RX10_24 dX10_arcAt_1) lf_RX10_65 dX10_arcAt_4) (kE_bin (kE_iload_1 dX10_arcAt_7) (kE_ic_1 dX10_arcAt_8) (kOp_add dX10_arcAt_9)) dX10_arcAt_10) (kE_iald (kE_get (kE_get (kE_aload_0 dX10_arcAt_11) lf_RX10_24 dX10_arcAt_12) lf_RX10_65 dX10_arcAt_15) (kE_iload_1 dX10_arcAt_18) dX10_arcAt_19) (kOp_sub dX10_arcAt_20)) (kSet_istore_3 dX10_arcAt_21 (by decide)))
  (kSt_ret (tag := 0) (kE_if (kCd_C (kE_iload_2 dX10_arcAt_22) (kE_iload_3 dX10_arcAt_23) (kJf_2 (tgt := 49) dX10_arcAt_24 (by decide))) (kE_goto (tgt := 70) (kE_iald (kE_get (kE_get (kE_aload_0 dX10_arcAt_27) lf_RX10_24 dX10_arcAt_28) lf_RX10_68 dX10_arcAt_31) (kE_bin (kE_iald (kE_get (kE_get (kE_aload_0 dX10_arcAt_34) lf_RX10_24 dX10_arcAt_35) lf_RX10_65 dX10_arcAt_38) (kE_iload_1 dX10_arcAt_41) dX10_arcAt_42) (kE_iload_2 dX10_arcAt_43) (kOp_add dX10_arcAt_44)) dX10_arcAt_45) dX10_arcAt_46 (by decide)) (kE_iald (kE_get (kE_get (kE_aload_0 dX10_arcAt_49) lf_RX10_28 dX10_arcAt_50) lf_RX10_68 dX10_arcAt_53) (kE_bin (kE_bin (kE_iald (kE_get (kE_get (kE_aload_0 dX10_arcAt_56) lf_RX10_28 dX10_arcAt_57) lf_RX10_65 dX10_arcAt_60) (kE_iload_1 dX10_arcAt_63) dX10_arcAt_64) (kE_iload_2 dX10_arcAt_65) (kOp_add dX10_arcAt_66)) (kE_iload_3 dX10_arcAt_67) (kOp_sub dX10_arcAt_68)) dX10_arcAt_69)) ⟨fun _ => dX10_arcAt_70, fun q => (by cases q), fun q => (by cases q)⟩))
noncomputable def F_Web_arcAt : kFn := kF 3 kI s_Web_arcAt
theorem c_Web_arcAt : kCon yX10_arcAt cX10_arcAt 4 (some .int) { frames := 0, cells := 0, slots := 0, locals := 0 } F_Web_arcAt := kCon_of kEnds_I (by decide +kernel) (by decide) ⟨0, 0, 0, b_Web_arcAt⟩
noncomputable def s_Trees_together : kSx :=
  (sRet 0 (eIf (cC 0 (eAld 0 (eGet 8 2 (eR 0)) (eI 1)) (eAld 0 (eGet 8 2 (eR 0)) (eI 2))) (eK (1)) (eK (0))))
abbrev M_Trees_together : kM := (cX8_together, yX8_together.cls, 3, { frames := 0, cells := 0, slots := 0, locals := 0 }, (some .boolean))
set_option maxRecDepth 20000 in
theorem b_Trees_together : kSt M_Trees_together 0 0 0 0 s_Trees_together :=
  (kSt_ret (tag := 0) (kE_if (kCd_C (kE_iald (kE_get (kE_aload_0 dX8_together_0) lf_RX8_19 dX8_together_1) (kE_iload_1 dX8_together_4) dX8_together_5) (kE_iald (kE_get (kE_aload_0 dX8_together_6) lf_RX8_19 dX8_together_7) (kE_iload_2 dX8_together_10) dX8_together_11) (kJf_0 (tgt := 19) dX8_together_12 (by decide))) (kE_goto (tgt := 20) (kE_ic_1 dX8_together_15) dX8_together_16 (by decide)) (kE_ic_0 dX8_together_19)) ⟨fun _ => dX8_together_20, fun q => (by cases q), fun q => (by cases q)⟩)
noncomputable def F_Trees_together : kFn := kF 3 kZ s_Trees_together
theorem c_Trees_together : kCon yX8_together cX8_together 3 (some .boolean) { frames := 0, cells := 0, slots := 0, locals := 0 } F_Trees_together := kCon_of kEnds_Z (by decide +kernel) (by decide) ⟨0, 0, 0, b_Trees_together⟩
noncomputable def l_Trees_treeArcs_1 : kSx := sFor 3 (cC 2 (eI 2) (eGet 10 4 (eGet 8 6 (eR 0))))
  (sIf (cZ 1 (eAld 1 (eGet 8 1 (eR 0)) (eAld 0 (eGet 10 2 (eGet 8 6 (eR 0))) (eI 2)))) (sInc 1 (1)) sSkip)
  (sInc 2 (1))
noncomputable def s_Trees_treeArcs : kSx :=
  (sSeq (sLet 0 1 (eK (0)))
  (sSeq (sTrunc 2 (sSeq (sLet 0 2 (eK (0))) l_Trees_treeArcs_1))
  (sRet 0 (eI 1))))
abbrev M_Trees_treeArcs : kM := (cX8_treeArcs, yX8_treeArcs.cls, 3, { frames := 0, cells := 0, slots := 0, locals := 0 }, (some .int))
set_option maxRecDepth 20000 in
theorem b_Trees_treeArcs : kSt M_Trees_treeArcs 0 0 0 0 s_Trees_treeArcs :=
  (kSt_seq (p1 := 2) (kSt_let (kE_ic_0 dX8_treeArcs_0) (kSet_istore_1 dX8_treeArcs_1 (by decide)))
  (kSt_seq (p1 := 41) (kSt_trunc (kSt_seq (kSt_let (kE_ic_0 dX8_treeArcs_2) (kSet_istore_2 dX8_treeArcs_3 (by decide))) (kSt_for (pu := 35) (pt := 15) (kCd_C (kE_iload_2 dX8_treeArcs_4) (kE_get (kE_get (kE_aload_0 dX8_treeArcs_5) lf_RX8_37 dX8_treeArcs_6) lf_RX8_51 dX8_treeArcs_9) (kJf_2 (tgt := 41) dX8_treeArcs_12 (by decide))) (kSt_if (kCd_Z (kE_zald (kE_get (kE_aload_0 dX8_treeArcs_15) lf_RX8_15 dX8_treeArcs_16) (kE_iald (kE_get (kE_get (kE_aload_0 dX8_treeArcs_19) lf_RX8_37 dX8_treeArcs_20) lf_RX8_54 dX8_treeArcs_23) (kE_iload_2 dX8_treeArcs_26) dX8_treeArcs_27) dX8_treeArcs_28) (kZf_1 (tgt := 35) dX8_treeArcs_29 (by decide))) (kSt_inc dX8_treeArcs_32 (by decide)) kSt_skip) (kSt_goto (tgt := 4) (kSt_inc dX8_treeArcs_35 (by decide)) dX8_treeArcs_38 (by decide)))))
  (kSt_ret (tag := 0) (kE_iload_1 dX8_treeArcs_41) ⟨fun _ => dX8_treeArcs_42, fun q => (by cases q), fun q => (by cases q)⟩)))
noncomputable def F_Trees_treeArcs : kFn := kF 1 kI s_Trees_treeArcs
theorem c_Trees_treeArcs : kCon yX8_treeArcs cX8_treeArcs 3 (some .int) { frames := 0, cells := 0, slots := 0, locals := 0 } F_Trees_treeArcs := kCon_of kEnds_I (by decide +kernel) (by decide) ⟨0, 0, 0, b_Trees_treeArcs⟩
noncomputable def s_Trees_parts : kSx :=
  (sRet 0 (eBin kSub (eGet 10 3 (eGet 8 6 (eR 0))) (eCall 8 F_Trees_treeArcs (eSnoc eNil (eR 0)))))
abbrev M_Trees_parts : kM := (cX8_parts, yX8_parts.cls, 1, { frames := 1, cells := 0, slots := 0, locals := 22 }, (some .int))
set_option maxRecDepth 20000 in
theorem b_Trees_parts : kSt M_Trees_parts 0 0 0 0 s_Trees_parts :=
  (kSt_ret (tag := 0) (kE_bin (kE_get (kE_get (kE_aload_0 dX8_parts_0) lf_RX8_37 dX8_parts_1) lf_RX8_41 dX8_parts_4) (kE_call (kEs_snoc kEs_nil (kE_aload_0 dX8_parts_7)) dX8_parts_8 c_Trees_treeArcs mv_Trees_treeArcs lm_RX8_47 ⟨rfl, rfl, by decide, by decide⟩ (by decide)) (kOp_sub dX8_parts_11)) ⟨fun _ => dX8_parts_12, fun q => (by cases q), fun q => (by cases q)⟩)
noncomputable def F_Trees_parts : kFn := kF 1 kI s_Trees_parts
theorem c_Trees_parts : kCon yX8_parts cX8_parts 1 (some .int) { frames := 1, cells := 0, slots := 0, locals := 22 } F_Trees_parts := kCon_of kEnds_I (by decide +kernel) (by decide) ⟨0, 0, 0, b_Trees_parts⟩
noncomputable def l_Trees_greatestLevel_1 : kSx := sFor 3 (cC 2 (eI 2) (eGet 10 4 (eGet 8 6 (eR 0))))
  (sLet 0 1 (eMax (eI 1) (eAld 0 (eGet 8 0 (eR 0)) (eAld 0 (eGet 10 2 (eGet 8 6 (eR 0))) (eI 2)))))
  (sInc 2 (1))
noncomputable def s_Trees_greatestLevel : kSx :=
  (sSeq (sLet 0 1 (eK (0)))
  (sSeq (sTrunc 2 (sSeq (sLet 0 2 (eK (0))) l_Trees_greatestLevel_1))
  (sRet 0 (eI 1))))
abbrev M_Trees_greatestLevel : kM := (cX8_greatestLevel, yX8_greatestLevel.cls, 3, { frames := 1, cells := 0, slots := 0, locals := 21 }, (some .int))
set_option maxRecDepth 20000 in
theorem b_Trees_greatestLevel : kSt M_Trees_greatestLevel 0 0 0 0 s_Trees_greatestLevel :=
  (kSt_seq (p1 := 2) (kSt_let (kE_ic_0 dX8_greatestLevel_0) (kSet_istore_1 dX8_greatestLevel_1 (by decide)))
  (kSt_seq (p1 := 40) (kSt_trunc (kSt_seq (kSt_let (kE_ic_0 dX8_greatestLevel_2) (kSet_istore_2 dX8_greatestLevel_3 (by decide))) (kSt_for (pu := 34) (pt := 15) (kCd_C (kE_iload_2 dX8_greatestLevel_4) (kE_get (kE_get (kE_aload_0 dX8_greatestLevel_5) lf_RX8_37 dX8_greatestLevel_6) lf_RX8_51 dX8_greatestLevel_9) (kJf_2 (tgt := 40) dX8_greatestLevel_12 (by decide))) (kSt_let (kE_max (kE_iload_1 dX8_greatestLevel_15) (kE_iald (kE_get (kE_aload_0 dX8_greatestLevel_16) lf_RX8_9 dX8_greatestLevel_17) (kE_iald (kE_get (kE_get (kE_aload_0 dX8_greatestLevel_20) lf_RX8_37 dX8_greatestLevel_21) lf_RX8_54 dX8_greatestLevel_24) (kE_iload_2 dX8_greatestLevel_27) dX8_greatestLevel_28) dX8_greatestLevel_29) dX8_greatestLevel_30 lM_RX8_57 mw_max ⟨by decide, by decide⟩ (by decide)) (kSet_istore_1 dX8_greatestLevel_33 (by decide))) (kSt_goto (tgt := 4) (kSt_inc dX8_greatestLevel_34 (by decide)) dX8_greatestLevel_37 (by decide)))))
  (kSt_ret (tag := 0) (kE_iload_1 dX8_greatestLevel_40) ⟨fun _ => dX8_greatestLevel_41, fun q => (by cases q), fun q => (by cases q)⟩)))
noncomputable def F_Trees_greatestLevel : kFn := kF 1 kI s_Trees_greatestLevel
theorem c_Trees_greatestLevel : kCon yX8_greatestLevel cX8_greatestLevel 3 (some .int) { frames := 1, cells := 0, slots := 0, locals := 21 } F_Trees_greatestLevel := kCon_of kEnds_I (by decide +kernel) (by decide) ⟨0, 0, 0, b_Trees_greatestLevel⟩
noncomputable def s_Trees_place : kSx :=
  (sSeq (sSeq (sAst 0 (eGet 8 2 (eR 0)) (eI 1) (eI 4))
  (sSeq (sAst 0 (eGet 8 3 (eR 0)) (eI 1) (eI 2))
  (sSeq (sAst 0 (eGet 8 4 (eR 0)) (eI 1) (eI 3))
  (sAst 0 (eGet 8 5 (eR 0)) (eI 1) (eI 5))))) sRetV)
abbrev M_Trees_place : kM := (cX8_place, yX8_place.cls, 6, { frames := 0, cells := 0, slots := 0, locals := 0 }, none)
set_option maxRecDepth 20000 in
theorem b_Trees_place : kSt M_Trees_place 0 0 0 0 s_Trees_place :=
  (kSt_seq (kSt_seq (p1 := 8) (kSt_iast (kE_get (kE_aload_0 dX8_place_0) lf_RX8_19 dX8_place_1) (kE_iload_1 dX8_place_4) (kE_iload dX8_place_5) dX8_place_7)
  (kSt_seq (p1 := 15) (kSt_iast (kE_get (kE_aload_0 dX8_place_8) lf_RX8_22 dX8_place_9) (kE_iload_1 dX8_place_12) (kE_iload_2 dX8_place_13) dX8_place_14)
  (kSt_seq (p1 := 22) (kSt_iast (kE_get (kE_aload_0 dX8_place_15) lf_RX8_25 dX8_place_16) (kE_iload_1 dX8_place_19) (kE_iload_3 dX8_place_20) dX8_place_21)
  (kSt_iast (kE_get (kE_aload_0 dX8_place_22) lf_RX8_28 dX8_place_23) (kE_iload_1 dX8_place_26) (kE_iload dX8_place_27) dX8_place_29)))) (kSt_retV dX8_place_30))
noncomputable def F_Trees_place : kFn := kF 6 kN s_Trees_place
theorem c_Trees_place : kCon yX8_place cX8_place 6 none { frames := 0, cells := 0, slots := 0, locals := 0 } F_Trees_place := kCon_of kEnds_V (by decide +kernel) (by decide) ⟨0, 0, 0, b_Trees_place⟩
noncomputable def l_Trees_hang_1 : kSx := sFor 11 (cC 2 (eI 10) (eI 9))
  (sTrunc 11 (sSeq (sLet 0 11 (eCall 10 F_Web_arcAt (eSnoc (eSnoc (eSnoc eNil (eGet 8 6 (eR 0))) (eI 8)) (eI 10))))
  (sSeq (sLet 0 12 (eCall 10 F_Web_other (eSnoc (eSnoc (eSnoc eNil (eGet 8 6 (eR 0))) (eI 11)) (eI 8))))
  (sIf (cAnd (cZ 1 (eAld 1 (eGet 8 1 (eR 0)) (eI 11))) (cC 1 (eAld 0 (eGet 8 2 (eR 0)) (eI 12)) (eI 4))) (sSeq (sCall 8 F_Trees_place (eSnoc (eSnoc (eSnoc (eSnoc (eSnoc (eSnoc eNil (eR 0)) (eI 12)) (eI 8)) (eI 11)) (eI 4)) (eBin kAdd (eAld 0 (eGet 8 5 (eR 0)) (eI 8)) (eK (1)))))
  (sSeq (sAst 0 (eGet 8 7 (eR 0)) (eI 6) (eI 12))
  (sInc 6 (1)))) sSkip))))
  (sInc 10 (1))
noncomputable def l_Trees_hang_2 : kSx := sFor 8 (cAnd (cC 2 (eI 7) (eK (300))) (cC 2 (eI 7) (eI 6)))
  (sTrunc 8 (sSeq (sLet 0 8 (eAld 0 (eGet 8 7 (eR 0)) (eI 7)))
  (sSeq (sLet 0 9 (eCall 10 F_Web_degree (eSnoc (eSnoc eNil (eGet 8 6 (eR 0))) (eI 8))))
  (sTrunc 10 (sSeq (sLet 0 10 (eK (0))) l_Trees_hang_1)))))
  (sInc 7 (1))
noncomputable def s_Trees_hang : kSx :=
  (sSeq (sSeq (sCall 8 F_Trees_place (eSnoc (eSnoc (eSnoc (eSnoc (eSnoc (eSnoc eNil (eR 0)) (eI 1)) (eI 2)) (eI 3)) (eI 4)) (eI 5)))
  (sSeq (sAst 0 (eGet 8 7 (eR 0)) (eK (0)) (eI 1))
  (sSeq (sLet 0 6 (eK (1)))
  (sTrunc 7 (sSeq (sLet 0 7 (eK (0))) l_Trees_hang_2))))) sRetV)
abbrev M_Trees_hang : kM := (cX8_hang, yX8_hang.cls, 13, { frames := 1, cells := 0, slots := 0, locals := 25 }, none)
set_option maxRecDepth 20000 in
theorem b_Trees_hang : kSt M_Trees_hang 0 0 0 0 s_Trees_hang :=
  (kSt_seq (kSt_seq (p1 := 11) (kSt_call (kEs_snoc (kEs_snoc (kEs_snoc (kEs_snoc (kEs_snoc (kEs_snoc kEs_nil (kE_aload_0 dX8_hang_0)) (kE_iload_1 dX8_hang_1)) (kE_iload_2 dX8_hang_2)) (kE_iload_3 dX8_hang_3)) (kE_iload dX8_hang_4)) (kE_iload dX8_hang_6)) dX8_hang_8 c_Trees_place mv_Trees_place lm_RX8_130 ⟨rfl, rfl, by decide, by decide⟩)
  (kSt_seq (p1 := 18) (kSt_iast (kE_get (kE_aload_0 dX8_hang_11) lf_RX8_31 dX8_hang_12) (kE_ic_0 dX8_hang_15) (kE_iload_1 dX8_hang_16) dX8_hang_17)
  (kSt_seq (p1 := 21) (kSt_let (kE_ic_1 dX8_hang_18) (kSet_istore dX8_hang_19 (by decide)))
  (kSt_trunc (kSt_seq (kSt_let (kE_ic_0 dX8_hang_21) (kSet_istore dX8_hang_22 (by decide))) (kSt_for (pu := 156) (pt := 39) (kCd_and (kCd_C (kE_iload dX8_hang_24) (kE_sipush dX8_hang_26 (by rfl) ⟨by decide, by decide⟩) (kJf_2 (tgt := 162) dX8_hang_29 (by decide))) (kCd_C (kE_iload dX8_hang_32) (kE_iload dX8_hang_34) (kJf_2 (tgt := 162) dX8_hang_36 (by decide)))) (kSt_trunc (kSt_seq (p1 := 48) (kSt_let (kE_iald (kE_get (kE_aload_0 dX8_hang_39) lf_RX8_31 dX8_hang_40) (kE_iload dX8_hang_43) dX8_hang_45) (kSet_istore dX8_hang_46 (by decide)))
  (kSt_seq (p1 := 59) (kSt_let (kE_call (kEs_snoc (kEs_snoc kEs_nil (kE_get (kE_aload_0 dX8_hang_48) lf_RX8_37 dX8_hang_49)) (kE_iload dX8_hang_52)) dX8_hang_54 c_Web_degree mv_Web_degree lm_RX8_120 ⟨rfl, rfl, by decide, by decide⟩ (by decide)) (kSet_istore dX8_hang_57 (by decide)))
  (kSt_trunc (kSt_seq (kSt_let (kE_ic_0 dX8_hang_59) (kSet_istore dX8_hang_60 (by decide))) (kSt_for (pu := 150) (pt := 69) (kCd_C (kE_iload dX8_hang_62) (kE_iload dX8_hang_64) (kJf_2 (tgt := 156) dX8_hang_66 (by decide))) (kSt_trunc (kSt_seq (p1 := 82) (kSt_let (kE_call (kEs_snoc (kEs_snoc (kEs_snoc kEs_nil (kE_get (kE_aload_0 dX8_hang_69) lf_RX8_37 dX8_hang_70)) (kE_iload dX8_hang_73)) (kE_iload dX8_hang_75)) dX8_hang_77 c_Web_arcAt mv_Web_arcAt lm_RX8_124 ⟨rfl, rfl, by decide, by decide⟩ (by decide)) (kSet_istore dX8_hang_80 (by decide)))
  (kSt_seq (p1 := 95) (kSt_let (kE_call (kEs_snoc (kEs_snoc (kEs_snoc kEs_nil (kE_get (kE_aload_0 dX8_hang_82) lf_RX8_37 dX8_hang_83)) (kE_iload dX8_hang_86)) (kE_iload dX8_hang_88)) dX8_hang_90 c_Web_other mv_Web_other lm_RX8_127 ⟨rfl, rfl, by decide, by decide⟩ (by decide)) (kSet_istore dX8_hang_93 (by decide)))
  (kSt_if (kCd_and (kCd_Z (kE_zald (kE_get (kE_aload_0 dX8_hang_95) lf_RX8_15 dX8_hang_96) (kE_iload dX8_hang_99) dX8_hang_101) (kZf_1 (tgt := 150) dX8_hang_102 (by decide))) (kCd_C (kE_iald (kE_get (kE_aload_0 dX8_hang_105) lf_RX8_19 dX8_hang_106) (kE_iload dX8_hang_109) dX8_hang_111) (kE_iload dX8_hang_112) (kJf_1 (tgt := 150) dX8_hang_114 (by decide)))) (kSt_seq (p1 := 138) (kSt_call (kEs_snoc (kEs_snoc (kEs_snoc (kEs_snoc (kEs_snoc (kEs_snoc kEs_nil (kE_aload_0 dX8_hang_117)) (kE_iload dX8_hang_118)) (kE_iload dX8_hang_120)) (kE_iload dX8_hang_122)) (kE_iload dX8_hang_124)) (kE_bin (kE_iald (kE_get (kE_aload_0 dX8_hang_126) lf_RX8_28 dX8_hang_127) (kE_iload dX8_hang_130) dX8_hang_132) (kE_ic_1 dX8_hang_133) (kOp_add dX8_hang_134))) dX8_hang_135 c_Trees_place mv_Trees_place lm_RX8_130 ⟨rfl, rfl, by decide, by decide⟩)
  (kSt_seq (p1 := 147) (kSt_iast (kE_get (kE_aload_0 dX8_hang_138) lf_RX8_31 dX8_hang_139) (kE_iload dX8_hang_142) (kE_iload dX8_hang_144) dX8_hang_146)
  (kSt_inc dX8_hang_147 (by decide)))) kSt_skip)))) (kSt_goto (tgt := 62) (kSt_inc dX8_hang_150 (by decide)) dX8_hang_153 (by decide)))))))) (kSt_goto (tgt := 24) (kSt_inc dX8_hang_156 (by decide)) dX8_hang_159 (by decide)))))))) (kSt_retV dX8_hang_162))
noncomputable def F_Trees_hang : kFn := kF 6 kN s_Trees_hang
theorem c_Trees_hang : kCon yX8_hang cX8_hang 13 none { frames := 1, cells := 0, slots := 0, locals := 25 } F_Trees_hang := kCon_of kEnds_V (by decide +kernel) (by decide) ⟨0, 0, 0, b_Trees_hang⟩
noncomputable def s_Trees_nodeAdded : kSx :=
  (sSeq (sCall 8 F_Trees_hang (eSnoc (eSnoc (eSnoc (eSnoc (eSnoc (eSnoc eNil (eR 0)) (eI 1)) (eK (-1))) (eK (-1))) (eI 1)) (eK (0)))) sRetV)
abbrev M_Trees_nodeAdded : kM := (cX8_nodeAdded, yX8_nodeAdded.cls, 2, { frames := 2, cells := 0, slots := 0, locals := 57 }, none)
set_option maxRecDepth 20000 in
theorem b_Trees_nodeAdded : kSt M_Trees_nodeAdded 0 0 0 0 s_Trees_nodeAdded :=
  (kSt_seq (kSt_call (kEs_snoc (kEs_snoc (kEs_snoc (kEs_snoc (kEs_snoc (kEs_snoc kEs_nil (kE_aload_0 dX8_nodeAdded_0)) (kE_iload_1 dX8_nodeAdded_1)) (kE_ic_m1 dX8_nodeAdded_2)) (kE_ic_m1 dX8_nodeAdded_3)) (kE_iload_1 dX8_nodeAdded_4)) (kE_ic_0 dX8_nodeAdded_5)) dX8_nodeAdded_6 c_Trees_hang mv_Trees_hang lm_RX8_63 ⟨rfl, rfl, by decide, by decide⟩) (kSt_retV dX8_nodeAdded_9))
noncomputable def F_Trees_nodeAdded : kFn := kF 2 kN s_Trees_nodeAdded
theorem c_Trees_nodeAdded : kCon yX8_nodeAdded cX8_nodeAdded 2 none { frames := 2, cells := 0, slots := 0, locals := 57 } F_Trees_nodeAdded := kCon_of kEnds_V (by decide +kernel) (by decide) ⟨0, 0, 0, b_Trees_nodeAdded⟩
noncomputable def s_Trees_arcAdded : kSx :=
  (sSeq (sSeq (sLet 0 2 (eAld 0 (eGet 10 0 (eGet 8 6 (eR 0))) (eI 1)))
  (sSeq (sLet 0 3 (eAld 0 (eGet 10 1 (eGet 8 6 (eR 0))) (eI 1)))
  (sSeq (sAst 0 (eGet 8 0 (eR 0)) (eI 1) (eK (0)))
  (sSeq (sAst 1 (eGet 8 1 (eR 0)) (eI 1) (eIf (cNot (cZ 1 (eCall 8 F_Trees_together (eSnoc (eSnoc (eSnoc eNil (eR 0)) (eI 2)) (eI 3))))) (eK (1)) (eK (0))))
  (sIf (cZ 1 (eAld 1 (eGet 8 1 (eR 0)) (eI 1))) (sTrunc 4 (sSeq (sLet 0 4 (eIf (cC 2 (eAld 0 (eGet 8 2 (eR 0)) (eI 2)) (eAld 0 (eGet 8 2 (eR 0)) (eI 3))) (eK (1)) (eK (0))))
  (sSeq (sLet 0 5 (eIf (cZ 1 (eI 4)) (eI 2) (eI 3)))
  (sCall 8 F_Trees_hang (eSnoc (eSnoc (eSnoc (eSnoc (eSnoc (eSnoc eNil (eR 0)) (eIf (cZ 1 (eI 4)) (eI 3) (eI 2))) (eI 5)) (eI 1)) (eAld 0 (eGet 8 2 (eR 0)) (eI 5))) (eBin kAdd (eAld 0 (eGet 8 5 (eR 0)) (eI 5)) (eK (1)))))))) sSkip))))) sRetV)
abbrev M_Trees_arcAdded : kM := (cX8_arcAdded, yX8_arcAdded.cls, 6, { frames := 2, cells := 0, slots := 0, locals := 57 }, none)
set_option maxRecDepth 20000 in
theorem b_Trees_arcAdded : kSt M_Trees_arcAdded 0 0 0 0 s_Trees_arcAdded :=
  (kSt_seq (kSt_seq (p1 := 10) (kSt_let (kE_iald (kE_get (kE_get (kE_aload_0 dX8_arcAdded_0) lf_RX8_37 dX8_arcAdded_1) lf_RX8_67 dX8_arcAdded_4) (kE_iload_1 dX8_arcAdded_7) dX8_arcAdded_8) (kSet_istore_2 dX8_arcAdded_9 (by decide)))
  (kSt_seq (p1 := 20) (kSt_let (kE_iald (kE_get (kE_get (kE_aload_0 dX8_arcAdded_10) lf_RX8_37 dX8_arcAdded_11) lf_RX8_70 dX8_arcAdded_14) (kE_iload_1 dX8_arcAdded_17) dX8_arcAdded_18) (kSet_istore_3 dX8_arcAdded_19 (by decide)))
  (kSt_seq (p1 := 27) (kSt_iast (kE_get (kE_aload_0 dX8_arcAdded_20) lf_RX8_9 dX8_arcAdded_21) (kE_iload_1 dX8_arcAdded_24) (kE_ic_0 dX8_arcAdded_25) dX8_arcAdded_26)
  (kSt_seq (p1 := 47) (kSt_zast (kE_get (kE_aload_0 dX8_arcAdded_27) lf_RX8_15 dX8_arcAdded_28) (kE_iload_1 dX8_arcAdded_31) (kE_if (kCd_not (kCd_Z (kE_call (kEs_snoc (kEs_snoc (kEs_snoc kEs_nil (kE_aload_0 dX8_arcAdded_32)) (kE_iload_2 dX8_arcAdded_33)) (kE_iload_3 dX8_arcAdded_34)) dX8_arcAdded_35 c_Trees_together mv_Trees_together lm_RX8_73 ⟨rfl, rfl, by decide, by decide⟩ (by decide)) (kZt_1 (tgt := 45) dX8_arcAdded_38 (by decide)))) (kE_goto (tgt := 46) (kE_ic_1 dX8_arcAdded_41) dX8_arcAdded_42 (by decide)) (kE_ic_0 dX8_arcAdded_45)) dX8_arcAdded_46)
  (kSt_if (kCd_Z (kE_zald (kE_get (kE_aload_0 dX8_arcAdded_47) lf_RX8_15 dX8_arcAdded_48) (kE_iload_1 dX8_arcAdded_51) dX8_arcAdded_52) (kZf_1 (tgt := 123) dX8_arcAdded_53 (by decide))) (kSt_trunc (kSt_seq (p1 := 78) (kSt_let (kE_if (kCd_C (kE_iald (kE_get (kE_aload_0 dX8_arcAdded_56) lf_RX8_19 dX8_arcAdded_57) (kE_iload_2 dX8_arcAdded_60) dX8_arcAdded_61) (kE_iald (kE_get (kE_aload_0 dX8_arcAdded_62) lf_RX8_19 dX8_arcAdded_63) (kE_iload_3 dX8_arcAdded_66) dX8_arcAdded_67) (kJf_2 (tgt := 75) dX8_arcAdded_68 (by decide))) (kE_goto (tgt := 76) (kE_ic_1 dX8_arcAdded_71) dX8_arcAdded_72 (by decide)) (kE_ic_0 dX8_arcAdded_75)) (kSet_istore dX8_arcAdded_76 (by decide)))
  (kSt_seq (p1 := 90) (kSt_let (kE_if (kCd_Z (kE_iload dX8_arcAdded_78) (kZf_1 (tgt := 87) dX8_arcAdded_80 (by decide))) (kE_goto (tgt := 88) (kE_iload_2 dX8_arcAdded_83) dX8_arcAdded_84 (by decide)) (kE_iload_3 dX8_arcAdded_87)) (kSet_istore dX8_arcAdded_88 (by decide)))
  (kSt_call (kEs_snoc (kEs_snoc (kEs_snoc (kEs_snoc (kEs_snoc (kEs_snoc kEs_nil (kE_aload_0 dX8_arcAdded_90)) (kE_if (kCd_Z (kE_iload dX8_arcAdded_91) (kZf_1 (tgt := 100) dX8_arcAdded_93 (by decide))) (kE_goto (tgt := 101) (kE_iload_3 dX8_arcAdded_96) dX8_arcAdded_97 (by decide)) (kE_iload_2 dX8_arcAdded_100))) (kE_iload dX8_arcAdded_101)) (kE_iload_1 dX8_arcAdded_103)) (kE_iald (kE_get (kE_aload_0 dX8_arcAdded_104) lf_RX8_19 dX8_arcAdded_105) (kE_iload dX8_arcAdded_108) dX8_arcAdded_110)) (kE_bin (kE_iald (kE_get (kE_aload_0 dX8_arcAdded_111) lf_RX8_28 dX8_arcAdded_112) (kE_iload dX8_arcAdded_115) dX8_arcAdded_117) (kE_ic_1 dX8_arcAdded_118) (kOp_add dX8_arcAdded_119))) dX8_arcAdded_120 c_Trees_hang mv_Trees_hang lm_RX8_63 ⟨rfl, rfl, by decide, by decide⟩)))) kSt_skip))))) (kSt_retV dX8_arcAdded_123))
noncomputable def F_Trees_arcAdded : kFn := kF 2 kN s_Trees_arcAdded
theorem c_Trees_arcAdded : kCon yX8_arcAdded cX8_arcAdded 6 none { frames := 2, cells := 0, slots := 0, locals := 57 } F_Trees_arcAdded := kCon_of kEnds_V (by decide +kernel) (by decide) ⟨0, 0, 0, b_Trees_arcAdded⟩
