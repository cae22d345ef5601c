def l_Ar_fill_1 : kSx := sFor 4 (cC 2 (eI 2) (eI 3))
  (sAst 0 (eR 0) (eI 2) (eI 1))
  (sInc 2 (1))
def s_Ar_fill : kSx :=
  (sSeq (sTrunc 2 (sSeq (sSeq (sLet 0 2 (eK (0))) (sLet 0 3 (eLen (eR 0)))) l_Ar_fill_1)) sRetV)
abbrev M_Ar_fill : kM := (cJ7_fill_53178, yJ7_fill_53178.cls, 4, { frames := 0, cells := 0, slots := 0, locals := 0 }, none)
set_option maxRecDepth 20000 in
theorem b_Ar_fill : kSt M_Ar_fill 0 0 0 0 s_Ar_fill :=
  (kSt_seq (kSt_trunc (kSt_seq (kSt_seq (kSt_let (kE_iconst dJ7_fill_53178_0 ⟨by decide, by decide⟩) (kSet_istore_n dJ7_fill_53178_1 (by decide))) (kSt_let (kE_alen (kE_aload_n dJ7_fill_53178_2) dJ7_fill_53178_3) (kSet_istore_n dJ7_fill_53178_4 (by decide)))) (kSt_for (pu := 14) (pt := 10) (kCd_C (kE_iload_n dJ7_fill_53178_5) (kE_iload_n dJ7_fill_53178_6) (kJf_2 (tgt := 20) dJ7_fill_53178_7 (by decide))) (kSt_iast (kE_aload_n dJ7_fill_53178_10) (kE_iload_n dJ7_fill_53178_11) (kE_iload_n dJ7_fill_53178_12) dJ7_fill_53178_13) (kSt_goto (tgt := 5) (kSt_inc dJ7_fill_53178_14 (by decide)) dJ7_fill_53178_17 (by decide))))) (kSt_retV dJ7_fill_53178_20))
def F_Ar_fill : kFn := kF 2 kN s_Ar_fill
theorem c_Ar_fill : kCon yJ7_fill_53178 cJ7_fill_53178 4 none { frames := 0, cells := 0, slots := 0, locals := 0 } F_Ar_fill := kCon_of kEnds_V (by decide +kernel) (by decide) ⟨0, 0, 0, b_Ar_fill⟩
def s_Fan_addNode : kSx :=
  (sSeq (sSeq (sAst 0 (eGet 1 1 (eR 0)) (eBin kAdd (eGet 1 2 (eR 0)) (eK (1))) (eGet 1 3 (eR 0)))
  (sPutOp 1 2 (eR 0) kAdd (eK (1)))) sRetV)
abbrev M_Fan_addNode : kM := (cX1_addNode, yX1_addNode.cls, 1, { frames := 0, cells := 0, slots := 0, locals := 0 }, none)
set_option maxRecDepth 20000 in
theorem b_Fan_addNode : kSt M_Fan_addNode 0 0 0 0 s_Fan_addNode :=
  (kSt_seq (kSt_seq (kSt_iast (kE_get (kE_aload_n dX1_addNode_0) lf_RX1_15 dX1_addNode_1) (kE_bin (kE_get (kE_aload_n dX1_addNode_4) lf_RX1_18 dX1_addNode_5) (kE_iconst dX1_addNode_8 ⟨by decide, by decide⟩) (kOp_add dX1_addNode_9)) (kE_get (kE_aload_n dX1_addNode_10) lf_RX1_22 dX1_addNode_11) dX1_addNode_14)
  (kSt_putOp (kE_aload_n dX1_addNode_15) dX1_addNode_16 lf_RX1_18 dX1_addNode_17 (kE_iconst dX1_addNode_20 ⟨by decide, by decide⟩) (kOp_add dX1_addNode_21) lp_RX1_18 dX1_addNode_22)) (kSt_retV dX1_addNode_25))
def F_Fan_addNode : kFn := kF 1 kN s_Fan_addNode
theorem c_Fan_addNode : kCon yX1_addNode cX1_addNode 1 none { frames := 0, cells := 0, slots := 0, locals := 0 } F_Fan_addNode := kCon_of kEnds_V (by decide +kernel) (by decide) ⟨0, 0, 0, b_Fan_addNode⟩
def l_Fan_addArc_1 : kSx := sFor 5 (cC 4 (eI 4) (eI 3))
  (sAst 0 (eGet 1 0 (eR 0)) (eI 4) (eAld 0 (eGet 1 0 (eR 0)) (eBin kSub (eI 4) (eK (1)))))
  (sInc 4 (-1))
def l_Fan_addArc_2 : kSx := sFor 5 (cC 5 (eI 4) (eGet 1 2 (eR 0)))
  (sAstOp (eGet 1 1 (eR 0)) (eI 4) kAdd (eK (1)))
  (sInc 4 (1))
def s_Fan_addArc : kSx :=
  (sSeq (sSeq (sLet 0 3 (eAld 0 (eGet 1 1 (eR 0)) (eBin kAdd (eI 1) (eK (1)))))
  (sSeq (sTrunc 4 (sSeq (sLet 0 4 (eGet 1 3 (eR 0))) l_Fan_addArc_1))
  (sSeq (sAst 0 (eGet 1 0 (eR 0)) (eI 3) (eI 2))
  (sSeq (sPutOp 1 3 (eR 0) kAdd (eK (1)))
  (sTrunc 4 (sSeq (sLet 0 4 (eBin kAdd (eI 1) (eK (1)))) l_Fan_addArc_2)))))) sRetV)
abbrev M_Fan_addArc : kM := (cX1_addArc, yX1_addArc.cls, 5, { frames := 0, cells := 0, slots := 0, locals := 0 }, none)
set_option maxRecDepth 20000 in
theorem b_Fan_addArc : kSt M_Fan_addArc 0 0 0 0 s_Fan_addArc :=
  (kSt_seq (kSt_seq (kSt_let (kE_iald (kE_get (kE_aload_n dX1_addArc_0) lf_RX1_15 dX1_addArc_1) (kE_bin (kE_iload_n dX1_addArc_4) (kE_iconst dX1_addArc_5 ⟨by decide, by decide⟩) (kOp_add dX1_addArc_6)) dX1_addArc_7) (kSet_istore_n dX1_addArc_8 (by decide)))
  (kSt_seq (kSt_trunc (kSt_seq (kSt_let (kE_get (kE_aload_n dX1_addArc_9) lf_RX1_22 dX1_addArc_10) (kSet_istore dX1_addArc_13 (by decide))) (kSt_for (pu := 37) (pt := 21) (kCd_C (kE_iload dX1_addArc_15) (kE_iload_n dX1_addArc_17) (kJf_4 (tgt := 43) dX1_addArc_18 (by decide))) (kSt_iast (kE_get (kE_aload_n dX1_addArc_21) lf_RX1_9 dX1_addArc_22) (kE_iload dX1_addArc_25) (kE_iald (kE_get (kE_aload_n dX1_addArc_27) lf_RX1_9 dX1_addArc_28) (kE_bin (kE_iload dX1_addArc_31) (kE_iconst dX1_addArc_33 ⟨by decide, by decide⟩) (kOp_sub dX1_addArc_34)) dX1_addArc_35) dX1_addArc_36) (kSt_goto (tgt := 15) (kSt_inc dX1_addArc_37 (by decide)) dX1_addArc_40 (by decide)))))
  (kSt_seq (kSt_iast (kE_get (kE_aload_n dX1_addArc_43) lf_RX1_9 dX1_addArc_44) (kE_iload_n dX1_addArc_47) (kE_iload_n dX1_addArc_48) dX1_addArc_49)
  (kSt_seq (kSt_putOp (kE_aload_n dX1_addArc_50) dX1_addArc_51 lf_RX1_22 dX1_addArc_52 (kE_iconst dX1_addArc_55 ⟨by decide, by decide⟩) (kOp_add dX1_addArc_56) lp_RX1_22 dX1_addArc_57)
  (kSt_trunc (kSt_seq (kSt_let (kE_bin (kE_iload_n dX1_addArc_60) (kE_iconst dX1_addArc_61 ⟨by decide, by decide⟩) (kOp_add dX1_addArc_62)) (kSet_istore dX1_addArc_63 (by decide))) (kSt_for (pu := 85) (pt := 74) (kCd_C (kE_iload dX1_addArc_65) (kE_get (kE_aload_n dX1_addArc_67) lf_RX1_18 dX1_addArc_68) (kJf_5 (tgt := 91) dX1_addArc_71 (by decide))) (kSt_iastOp (kE_get (kE_aload_n dX1_addArc_74) lf_RX1_15 dX1_addArc_75) (kE_iload dX1_addArc_78) dX1_addArc_80 dX1_addArc_81 (kE_iconst dX1_addArc_82 ⟨by decide, by decide⟩) (kOp_add dX1_addArc_83) dX1_addArc_84) (kSt_goto (tgt := 65) (kSt_inc dX1_addArc_85 (by decide)) dX1_addArc_88 (by decide))))))))) (kSt_retV dX1_addArc_91))
def F_Fan_addArc : kFn := kF 3 kN s_Fan_addArc
theorem c_Fan_addArc : kCon yX1_addArc cX1_addArc 5 none { frames := 0, cells := 0, slots := 0, locals := 0 } F_Fan_addArc := kCon_of kEnds_V (by decide +kernel) (by decide) ⟨0, 0, 0, b_Fan_addArc⟩
def l_KP_leaveOut_1 : kSx := sFor 5 (cC 2 (eI 4) (eI 1))
  (sIf (cC 1 (eAld 0 (eR 0) (eI 4)) (eI 2)) (sSeq (sAst 0 (eR 0) (eI 3) (eAld 0 (eR 0) (eI 4)))
  (sInc 3 (1))) sSkip)
  (sInc 4 (1))
def s_KP_leaveOut : kSx :=
  (sSeq (sLet 0 3 (eK (0)))
  (sSeq (sTrunc 4 (sSeq (sLet 0 4 (eK (0))) l_KP_leaveOut_1))
  (sRet 0 (eI 3))))
abbrev M_KP_leaveOut : kM := (cX11_leaveOut, yX11_leaveOut.cls, 5, { frames := 0, cells := 0, slots := 0, locals := 0 }, (some .int))
set_option maxRecDepth 20000 in
theorem b_KP_leaveOut : kSt M_KP_leaveOut 0 0 0 0 s_KP_leaveOut :=
  (kSt_seq (kSt_let (kE_iconst dX11_leaveOut_0 ⟨by decide, by decide⟩) (kSet_istore_n dX11_leaveOut_1 (by decide)))
  (kSt_seq (kSt_trunc (kSt_seq (kSt_let (kE_iconst dX11_leaveOut_2 ⟨by decide, by decide⟩) (kSet_istore dX11_leaveOut_3 (by decide))) (kSt_for (pu := 29) (pt := 11) (kCd_C (kE_iload dX11_leaveOut_5) (kE_iload_n dX11_leaveOut_7) (kJf_2 (tgt := 35) dX11_leaveOut_8 (by decide))) (kSt_if (kCd_C (kE_iald (kE_aload_n dX11_leaveOut_11) (kE_iload dX11_leaveOut_12) dX11_leaveOut_14) (kE_iload_n dX11_leaveOut_15) (kJf_1 (tgt := 29) dX11_leaveOut_16 (by decide))) (kSt_seq (kSt_iast (kE_aload_n dX11_leaveOut_19) (kE_iload_n dX11_leaveOut_20) (kE_iald (kE_aload_n dX11_leaveOut_21) (kE_iload dX11_leaveOut_22) dX11_leaveOut_24) dX11_leaveOut_25)
  (kSt_inc dX11_leaveOut_26 (by decide))) kSt_skip) (kSt_goto (tgt := 5) (kSt_inc dX11_leaveOut_29 (by decide)) dX11_leaveOut_32 (by decide)))))
  (kSt_ret (tag := 0) (kE_iload_n dX11_leaveOut_35) ⟨fun _ => dX11_leaveOut_36, fun q => (by cases q), fun q => (by cases q)⟩)))
def F_KP_leaveOut : kFn := kF 3 kI s_KP_leaveOut
theorem c_KP_leaveOut : kCon yX11_leaveOut cX11_leaveOut 5 (some .int) { frames := 0, cells := 0, slots := 0, locals := 0 } F_KP_leaveOut := kCon_of kEnds_I (by decide +kernel) (by decide) ⟨0, 0, 0, b_KP_leaveOut⟩
def l_Fan_removeArc_1 : kSx := sFor 4 (cC 5 (eI 3) (eGet 1 2 (eR 0)))
  (sAstOp (eGet 1 1 (eR 0)) (eI 3) kSub (eK (1)))
  (sInc 3 (1))
def s_Fan_removeArc : kSx :=
  (sSeq (sSeq (sPut 1 3 (eR 0) (eCallS F_KP_leaveOut (eSnoc (eSnoc (eSnoc eNil (eGet 1 0 (eR 0))) (eGet 1 3 (eR 0))) (eI 2))))
  (sTrunc 3 (sSeq (sLet 0 3 (eBin kAdd (eI 1) (eK (1)))) l_Fan_removeArc_1))) sRetV)
abbrev M_Fan_removeArc : kM := (cX1_removeArc, yX1_removeArc.cls, 4, { frames := 1, cells := 0, slots := 0, locals := 24 }, none)
set_option maxRecDepth 20000 in
theorem b_Fan_removeArc : kSt M_Fan_removeArc 0 0 0 0 s_Fan_removeArc :=
  (kSt_seq (kSt_seq (kSt_put (kE_aload_n dX1_removeArc_0) (kE_callN (kEs_snoc (kEs_snoc (kEs_snoc kEs_nil (kE_get (kE_aload_n dX1_removeArc_1) lf_RX1_9 dX1_removeArc_2)) (kE_get (kE_aload_n dX1_removeArc_5) lf_RX1_22 dX1_removeArc_6)) (kE_iload_n dX1_removeArc_9)) dX1_removeArc_10 c_KP_leaveOut mv_KP_leaveOut lm_RX1_25 ⟨rfl, rfl, by decide, by decide⟩ (by decide)) lp_RX1_22 dX1_removeArc_13)
  (kSt_trunc (kSt_seq (kSt_let (kE_bin (kE_iload_n dX1_removeArc_16) (kE_iconst dX1_removeArc_17 ⟨by decide, by decide⟩) (kOp_add dX1_removeArc_18)) (kSet_istore_n dX1_removeArc_19 (by decide))) (kSt_for (pu := 38) (pt := 28) (kCd_C (kE_iload_n dX1_removeArc_20) (kE_get (kE_aload_n dX1_removeArc_21) lf_RX1_18 dX1_removeArc_22) (kJf_5 (tgt := 44) dX1_removeArc_25 (by decide))) (kSt_iastOp (kE_get (kE_aload_n dX1_removeArc_28) lf_RX1_15 dX1_removeArc_29) (kE_iload_n dX1_removeArc_32) dX1_removeArc_33 dX1_removeArc_34 (kE_iconst dX1_removeArc_35 ⟨by decide, by decide⟩) (kOp_sub dX1_removeArc_36) dX1_removeArc_37) (kSt_goto (tgt := 20) (kSt_inc dX1_removeArc_38 (by decide)) dX1_removeArc_41 (by decide)))))) (kSt_retV dX1_removeArc_44))
def F_Fan_removeArc : kFn := kF 3 kN s_Fan_removeArc
theorem c_Fan_removeArc : kCon yX1_removeArc cX1_removeArc 4 none { frames := 1, cells := 0, slots := 0, locals := 24 } F_Fan_removeArc := kCon_of kEnds_V (by decide +kernel) (by decide) ⟨0, 0, 0, b_Fan_removeArc⟩
def s_Fan_empty : kSx :=
  (sSeq (sSeq (sPut 1 2 (eR 0) (eK (0)))
  (sPut 1 3 (eR 0) (eK (0)))) sRetV)
abbrev M_Fan_empty : kM := (cX1_empty, yX1_empty.cls, 1, { frames := 0, cells := 0, slots := 0, locals := 0 }, none)
set_option maxRecDepth 20000 in
theorem b_Fan_empty : kSt M_Fan_empty 0 0 0 0 s_Fan_empty :=
  (kSt_seq (kSt_seq (kSt_put (kE_aload_n dX1_empty_0) (kE_iconst dX1_empty_1 ⟨by decide, by decide⟩) lp_RX1_18 dX1_empty_2)
  (kSt_put (kE_aload_n dX1_empty_5) (kE_iconst dX1_empty_6 ⟨by decide, by decide⟩) lp_RX1_22 dX1_empty_7)) (kSt_retV dX1_empty_10))
def F_Fan_empty : kFn := kF 1 kN s_Fan_empty
theorem c_Fan_empty : kCon yX1_empty cX1_empty 1 none { frames := 0, cells := 0, slots := 0, locals := 0 } F_Fan_empty := kCon_of kEnds_V (by decide +kernel) (by decide) ⟨0, 0, 0, b_Fan_empty⟩
def l_Joiner_begin_1 : kSx := sFor 3 (cC 2 (eI 2) (eI 1))
  (sSeq (sAst 0 (eGet 2 3 (eR 0)) (eI 2) (eI 2))
  (sSeq (sAst 0 (eGet 2 4 (eR 0)) (eI 2) (eK (0)))
  (sSeq (sAst 0 (eGet 2 5 (eR 0)) (eI 2) (eK (1)))
  (sAst 1 (eGet 2 6 (eR 0)) (eI 2) (eK (0))))))
  (sInc 2 (1))
def s_Joiner_begin : kSx :=
  (sSeq (sSeq (sTrunc 2 (sSeq (sLet 0 2 (eK (0))) l_Joiner_begin_1))
  (sSeq (sPut 2 0 (eR 0) (eI 1))
  (sSeq (sPut 2 1 (eR 0) (eI 1))
  (sPut 2 2 (eR 0) (eMin (eI 1) (eK (1))))))) sRetV)
abbrev M_Joiner_begin : kM := (cX2_begin, yX2_begin.cls, 3, { frames := 1, cells := 0, slots := 0, locals := 21 }, none)
set_option maxRecDepth 20000 in
theorem b_Joiner_begin : kSt M_Joiner_begin 0 0 0 0 s_Joiner_begin :=
  (kSt_seq (kSt_seq (kSt_trunc (kSt_seq (kSt_let (kE_iconst dX2_begin_0 ⟨by decide, by decide⟩) (kSet_istore_n dX2_begin_1 (by decide))) (kSt_for (pu := 35) (pt := 7) (kCd_C (kE_iload_n dX2_begin_2) (kE_iload_n dX2_begin_3) (kJf_2 (tgt := 41) dX2_begin_4 (by decide))) (kSt_seq (kSt_iast (kE_get (kE_aload_n dX2_begin_7) lf_RX2_9 dX2_begin_8) (kE_iload_n dX2_begin_11) (kE_iload_n dX2_begin_12) dX2_begin_13)
  (kSt_seq (kSt_iast (kE_get (kE_aload_n dX2_begin_14) lf_RX2_15 dX2_begin_15) (kE_iload_n dX2_begin_18) (kE_iconst dX2_begin_19 ⟨by decide, by decide⟩) dX2_begin_20)
  (kSt_seq (kSt_iast (kE_get (kE_aload_n dX2_begin_21) lf_RX2_18 dX2_begin_22) (kE_iload_n dX2_begin_25) (kE_iconst dX2_begin_26 ⟨by decide, by decide⟩) dX2_begin_27)
  (kSt_zast (kE_get (kE_aload_n dX2_begin_28) lf_RX2_21 dX2_begin_29) (kE_iload_n dX2_begin_32) (kE_iconst dX2_begin_33 ⟨by decide, by decide⟩) dX2_begin_34)))) (kSt_goto (tgt := 2) (kSt_inc dX2_begin_35 (by decide)) dX2_begin_38 (by decide)))))
  (kSt_seq (kSt_put (kE_aload_n dX2_begin_41) (kE_iload_n dX2_begin_42) lp_RX2_25 dX2_begin_43)
  (kSt_seq (kSt_put (kE_aload_n dX2_begin_46) (kE_iload_n dX2_begin_47) lp_RX2_29 dX2_begin_48)
  (kSt_put (kE_aload_n dX2_begin_51) (kE_min (kE_iload_n dX2_begin_52) (kE_iconst dX2_begin_53 ⟨by decide, by decide⟩) dX2_begin_54 lM_RX2_32 mw_min ⟨by decide, by decide⟩ (by decide)) lp_RX2_38 dX2_begin_57)))) (kSt_retV dX2_begin_60))
def F_Joiner_begin : kFn := kF 2 kN s_Joiner_begin
theorem c_Joiner_begin : kCon yX2_begin cX2_begin 3 none { frames := 1, cells := 0, slots := 0, locals := 21 } F_Joiner_begin := kCon_of kEnds_V (by decide +kernel) (by decide) ⟨0, 0, 0, b_Joiner_begin⟩
def l_Joiner_headOf_1 : kSx := sFor 4 (cAnd (cC 2 (eI 3) (eK (300))) (cC 1 (eAld 0 (eGet 2 3 (eR 0)) (eI 2)) (eI 2)))
  (sLet 0 2 (eAld 0 (eGet 2 3 (eR 0)) (eI 2)))
  (sInc 3 (1))
def s_Joiner_headOf : kSx :=
  (sSeq (sLet 0 2 (eI 1))
  (sSeq (sTrunc 3 (sSeq (sLet 0 3 (eK (0))) l_Joiner_headOf_1))
  (sRet 0 (eI 2))))
abbrev M_Joiner_headOf : kM := (cX2_headOf, yX2_headOf.cls, 4, { frames := 0, cells := 0, slots := 0, locals := 0 }, (some .int))
set_option maxRecDepth 20000 in
theorem b_Joiner_headOf : kSt M_Joiner_headOf 0 0 0 0 s_Joiner_headOf :=
  (kSt_seq (kSt_let (kE_iload_n dX2_headOf_0) (kSet_istore_n dX2_headOf_1 (by decide)))
  (kSt_seq (kSt_trunc (kSt_seq (kSt_let (kE_iconst dX2_headOf_2 ⟨by decide, by decide⟩) (kSet_istore_n dX2_headOf_3 (by decide))) (kSt_for (pu := 28) (pt := 21) (kCd_and (kCd_C (kE_iload_n dX2_headOf_4) (kE_sipush dX2_headOf_5 (by rfl) ⟨by decide, by decide⟩) (kJf_2 (tgt := 34) dX2_headOf_8 (by decide))) (kCd_C (kE_iald (kE_get (kE_aload_n dX2_headOf_11) lf_RX2_9 dX2_headOf_12) (kE_iload_n dX2_headOf_15) dX2_headOf_16) (kE_iload_n dX2_headOf_17) (kJf_1 (tgt := 34) dX2_headOf_18 (by decide)))) (kSt_let (kE_iald (kE_get (kE_aload_n dX2_headOf_21) lf_RX2_9 dX2_headOf_22) (kE_iload_n dX2_headOf_25) dX2_headOf_26) (kSet_istore_n dX2_headOf_27 (by decide))) (kSt_goto (tgt := 4) (kSt_inc dX2_headOf_28 (by decide)) dX2_headOf_31 (by decide)))))
  (kSt_ret (tag := 0) (kE_iload_n dX2_headOf_34) ⟨fun _ => dX2_headOf_35, fun q => (by cases q), fun q => (by cases q)⟩)))
def F_Joiner_headOf : kFn := kF 2 kI s_Joiner_headOf
theorem c_Joiner_headOf : kCon yX2_headOf cX2_headOf 4 (some .int) { frames := 0, cells := 0, slots := 0, locals := 0 } F_Joiner_headOf := kCon_of kEnds_I (by decide +kernel) (by decide) ⟨0, 0, 0, b_Joiner_headOf⟩
def s_Joiner_together : kSx :=
  (sRet 0 (eIf (cC 0 (eCall 2 F_Joiner_headOf (eSnoc (eSnoc eNil (eR 0)) (eI 1))) (eCall 2 F_Joiner_headOf (eSnoc (eSnoc eNil (eR 0)) (eI 2)))) (eK (1)) (eK (0))))
abbrev M_Joiner_together : kM := (cX2_together, yX2_together.cls, 3, { frames := 1, cells := 0, slots := 0, locals := 23 }, (some .boolean))
set_option maxRecDepth 20000 in
theorem b_Joiner_together : kSt M_Joiner_together 0 0 0 0 s_Joiner_together :=
  (kSt_ret (tag := 0) (kE_if (kCd_C (kE_call (kEs_snoc (kEs_snoc kEs_nil (kE_aload_n dX2_together_0)) (kE_iload_n dX2_together_1)) dX2_together_2 c_Joiner_headOf mv_Joiner_headOf lm_RX2_41 ⟨rfl, rfl, by decide, by decide⟩ (by decide)) (kE_call (kEs_snoc (kEs_snoc kEs_nil (kE_aload_n dX2_together_5)) (kE_iload_n dX2_together_6)) dX2_together_7 c_Joiner_headOf mv_Joiner_headOf lm_RX2_41 ⟨rfl, rfl, by decide, by decide⟩ (by decide)) (kJf_0 (tgt := 17) dX2_together_10 (by decide))) (kE_goto (tgt := 18) (kE_iconst dX2_together_13 ⟨by decide, by decide⟩) dX2_together_14 (by decide)) (kE_iconst dX2_together_17 ⟨by decide, by decide⟩)) ⟨fun _ => dX2_together_18, fun q => (by cases q), fun q => (by cases q)⟩)
def F_Joiner_together : kFn := kF 3 kZ s_Joiner_together
theorem c_Joiner_together : kCon yX2_together cX2_together 3 (some .boolean) { frames := 1, cells := 0, slots := 0, locals := 23 } F_Joiner_together := kCon_of kEnds_Z (by decide +kernel) (by decide) ⟨0, 0, 0, b_Joiner_together⟩
def l_Joiner_sideOf_1 : kSx := sFor 5 (cAnd (cC 2 (eI 4) (eK (300))) (cC 1 (eAld 0 (eGet 2 3 (eR 0)) (eI 2)) (eI 2)))
  (sSeq (sLet 0 3 (eBin kXor (eI 3) (eAld 0 (eGet 2 4 (eR 0)) (eI 2))))
  (sLet 0 2 (eAld 0 (eGet 2 3 (eR 0)) (eI 2))))
  (sInc 4 (1))
def s_Joiner_sideOf : kSx :=
  (sSeq (sLet 0 2 (eI 1))
  (sSeq (sLet 0 3 (eK (0)))
  (sSeq (sTrunc 4 (sSeq (sLet 0 4 (eK (0))) l_Joiner_sideOf_1))
  (sRet 0 (eI 3)))))
abbrev M_Joiner_sideOf : kM := (cX2_sideOf, yX2_sideOf.cls, 5, { frames := 0, cells := 0, slots := 0, locals := 0 }, (some .int))
set_option maxRecDepth 20000 in
theorem b_Joiner_sideOf : kSt M_Joiner_sideOf 0 0 0 0 s_Joiner_sideOf :=
  (kSt_seq (kSt_let (kE_iload_n dX2_sideOf_0) (kSet_istore_n dX2_sideOf_1 (by decide)))
  (kSt_seq (kSt_let (kE_iconst dX2_sideOf_2 ⟨by decide, by decide⟩) (kSet_istore_n dX2_sideOf_3 (by decide)))
  (kSt_seq (kSt_trunc (kSt_seq (kSt_let (kE_iconst dX2_sideOf_4 ⟨by decide, by decide⟩) (kSet_istore dX2_sideOf_5 (by decide))) (kSt_for (pu := 41) (pt := 25) (kCd_and (kCd_C (kE_iload dX2_sideOf_7) (kE_sipush dX2_sideOf_9 (by rfl) ⟨by decide, by decide⟩) (kJf_2 (tgt := 47) dX2_sideOf_12 (by decide))) (kCd_C (kE_iald (kE_get (kE_aload_n dX2_sideOf_15) lf_RX2_9 dX2_sideOf_16) (kE_iload_n dX2_sideOf_19) dX2_sideOf_20) (kE_iload_n dX2_sideOf_21) (kJf_1 (tgt := 47) dX2_sideOf_22 (by decide)))) (kSt_seq (kSt_let (kE_bin (kE_iload_n dX2_sideOf_25) (kE_iald (kE_get (kE_aload_n dX2_sideOf_26) lf_RX2_15 dX2_sideOf_27) (kE_iload_n dX2_sideOf_30) dX2_sideOf_31) (kOp_xor dX2_sideOf_32)) (kSet_istore_n dX2_sideOf_33 (by decide)))
  (kSt_let (kE_iald (kE_get (kE_aload_n dX2_sideOf_34) lf_RX2_9 dX2_sideOf_35) (kE_iload_n dX2_sideOf_38) dX2_sideOf_39) (kSet_istore_n dX2_sideOf_40 (by decide)))) (kSt_goto (tgt := 7) (kSt_inc dX2_sideOf_41 (by decide)) dX2_sideOf_44 (by decide)))))
  (kSt_ret (tag := 0) (kE_iload_n dX2_sideOf_47) ⟨fun _ => dX2_sideOf_48, fun q => (by cases q), fun q => (by cases q)⟩))))
def F_Joiner_sideOf : kFn := kF 2 kI s_Joiner_sideOf
theorem c_Joiner_sideOf : kCon yX2_sideOf cX2_sideOf 5 (some .int) { frames := 0, cells := 0, slots := 0, locals := 0 } F_Joiner_sideOf := kCon_of kEnds_I (by decide +kernel) (by decide) ⟨0, 0, 0, b_Joiner_sideOf⟩
def s_Joiner_hang : kSx :=
  (sSeq (sSeq (sIf (cOr (cNot (cZ 1 (eAld 1 (eGet 2 6 (eR 0)) (eI 1)))) (cNot (cZ 1 (eAld 1 (eGet 2 6 (eR 0)) (eI 2))))) (sPutOp 2 1 (eR 0) kSub (eK (1))) sSkip)
  (sSeq (sPutOp 2 0 (eR 0) kSub (eK (1)))
  (sSeq (sAst 0 (eGet 2 3 (eR 0)) (eI 1) (eI 2))
  (sSeq (sAst 0 (eGet 2 4 (eR 0)) (eI 1) (eI 3))
  (sSeq (sAstOp (eGet 2 5 (eR 0)) (eI 2) kAdd (eAld 0 (eGet 2 5 (eR 0)) (eI 1)))
  (sSeq (sAst 1 (eGet 2 6 (eR 0)) (eI 2) (eIf (cOr (cZ 1 (eAld 1 (eGet 2 6 (eR 0)) (eI 2))) (cZ 1 (eAld 1 (eGet 2 6 (eR 0)) (eI 1)))) (eK (1)) (eK (0))))
  (sPut 2 2 (eR 0) (eMax (eGet 2 2 (eR 0)) (eAld 0 (eGet 2 5 (eR 0)) (eI 2)))))))))) sRetV)
abbrev M_Joiner_hang : kM := (cX2_hang, yX2_hang.cls, 4, { frames := 1, cells := 0, slots := 0, locals := 21 }, none)
set_option maxRecDepth 20000 in
theorem b_Joiner_hang : kSt M_Joiner_hang 0 0 0 0 s_Joiner_hang :=
  (kSt_seq (kSt_seq (kSt_if (kCd_or (kCd_not (kCd_Z (kE_zald (kE_get (kE_aload_n dX2_hang_0) lf_RX2_21 dX2_hang_1) (kE_iload_n dX2_hang_4) dX2_hang_5) (kZf_1 (tgt := 18) dX2_hang_6 (by decide)))) (kCd_not (kCd_Z (kE_zald (kE_get (kE_aload_n dX2_hang_9) lf_RX2_21 dX2_hang_10) (kE_iload_n dX2_hang_13) dX2_hang_14) (kZt_1 (tgt := 28) dX2_hang_15 (by decide))))) (kSt_putOp (kE_aload_n dX2_hang_18) dX2_hang_19 lf_RX2_29 dX2_hang_20 (kE_iconst dX2_hang_23 ⟨by decide, by decide⟩) (kOp_sub dX2_hang_24) lp_RX2_29 dX2_hang_25) kSt_skip)
  (kSt_seq (kSt_putOp (kE_aload_n dX2_hang_28) dX2_hang_29 lf_RX2_25 dX2_hang_30 (kE_iconst dX2_hang_33 ⟨by decide, by decide⟩) (kOp_sub dX2_hang_34) lp_RX2_25 dX2_hang_35)
  (kSt_seq (kSt_iast (kE_get (kE_aload_n dX2_hang_38) lf_RX2_9 dX2_hang_39) (kE_iload_n dX2_hang_42) (kE_iload_n dX2_hang_43) dX2_hang_44)
  (kSt_seq (kSt_iast (kE_get (kE_aload_n dX2_hang_45) lf_RX2_15 dX2_hang_46) (kE_iload_n dX2_hang_49) (kE_iload_n dX2_hang_50) dX2_hang_51)
  (kSt_seq (kSt_iastOp (kE_get (kE_aload_n dX2_hang_52) lf_RX2_18 dX2_hang_53) (kE_iload_n dX2_hang_56) dX2_hang_57 dX2_hang_58 (kE_iald (kE_get (kE_aload_n dX2_hang_59) lf_RX2_18 dX2_hang_60) (kE_iload_n dX2_hang_63) dX2_hang_64) (kOp_add dX2_hang_65) dX2_hang_66)
  (kSt_seq (kSt_zast (kE_get (kE_aload_n dX2_hang_67) lf_RX2_21 dX2_hang_68) (kE_iload_n dX2_hang_71) (kE_if (kCd_or (kCd_Z (kE_zald (kE_get (kE_aload_n dX2_hang_72) lf_RX2_21 dX2_hang_73) (kE_iload_n dX2_hang_76) dX2_hang_77) (kZt_1 (tgt := 90) dX2_hang_78 (by decide))) (kCd_Z (kE_zald (kE_get (kE_aload_n dX2_hang_81) lf_RX2_21 dX2_hang_82) (kE_iload_n dX2_hang_85) dX2_hang_86) (kZf_1 (tgt := 94) dX2_hang_87 (by decide)))) (kE_goto (tgt := 95) (kE_iconst dX2_hang_90 ⟨by decide, by decide⟩) dX2_hang_91 (by decide)) (kE_iconst dX2_hang_94 ⟨by decide, by decide⟩)) dX2_hang_95)
  (kSt_put (kE_aload_n dX2_hang_96) (kE_max (kE_get (kE_aload_n dX2_hang_97) lf_RX2_38 dX2_hang_98) (kE_iald (kE_get (kE_aload_n dX2_hang_101) lf_RX2_18 dX2_hang_102) (kE_iload_n dX2_hang_105) dX2_hang_106) dX2_hang_107 lM_RX2_52 mw_max ⟨by decide, by decide⟩ (by decide)) lp_RX2_38 dX2_hang_110))))))) (kSt_retV dX2_hang_113))
def F_Joiner_hang : kFn := kF 4 kN s_Joiner_hang
theorem c_Joiner_hang : kCon yX2_hang cX2_hang 4 none { frames := 1, cells := 0, slots := 0, locals := 21 } F_Joiner_hang := kCon_of kEnds_V (by decide +kernel) (by decide) ⟨0, 0, 0, b_Joiner_hang⟩
def s_Joiner_join : kSx :=
  (sSeq (sLet 0 3 (eCall 2 F_Joiner_headOf (eSnoc (eSnoc eNil (eR 0)) (eI 1))))
  (sSeq (sLet 0 4 (eCall 2 F_Joiner_headOf (eSnoc (eSnoc eNil (eR 0)) (eI 2))))
  (sSeq (sLet 0 5 (eBin kXor (eBin kXor (eCall 2 F_Joiner_sideOf (eSnoc (eSnoc eNil (eR 0)) (eI 1))) (eCall 2 F_Joiner_sideOf (eSnoc (eSnoc eNil (eR 0)) (eI 2)))) (eK (1))))
  (sSeq (sIf (cC 0 (eI 3) (eI 4)) (sSeq (sIf (cAnd (cC 0 (eI 5) (eK (1))) (cNot (cZ 1 (eAld 1 (eGet 2 6 (eR 0)) (eI 3))))) (sSeq (sAst 1 (eGet 2 6 (eR 0)) (eI 3) (eK (1)))
  (sPutOp 2 1 (eR 0) kSub (eK (1)))) sSkip)
  (sRet 0 (eK (0)))) sSkip)
  (sSeq (sLet 0 6 (eIf (cC 3 (eAld 0 (eGet 2 5 (eR 0)) (eI 3)) (eAld 0 (eGet 2 5 (eR 0)) (eI 4))) (eK (1)) (eK (0))))
  (sSeq (sCall 2 F_Joiner_hang (eSnoc (eSnoc (eSnoc (eSnoc eNil (eR 0)) (eIf (cZ 1 (eI 6)) (eI 4) (eI 3))) (eIf (cZ 1 (eI 6)) (eI 3) (eI 4))) (eI 5)))
  (sRet 0 (eK (1)))))))))
abbrev M_Joiner_join : kM := (cX2_join, yX2_join.cls, 7, { frames := 2, cells := 0, slots := 0, locals := 44 }, (some .boolean))
set_option maxRecDepth 20000 in
theorem b_Joiner_join : kSt M_Joiner_join 0 0 0 0 s_Joiner_join :=
  (kSt_seq (kSt_let (kE_call (kEs_snoc (kEs_snoc kEs_nil (kE_aload_n dX2_join_0)) (kE_iload_n dX2_join_1)) dX2_join_2 c_Joiner_headOf mv_Joiner_headOf lm_RX2_41 ⟨rfl, rfl, by decide, by decide⟩ (by decide)) (kSet_istore_n dX2_join_5 (by decide)))
  (kSt_seq (kSt_let (kE_call (kEs_snoc (kEs_snoc kEs_nil (kE_aload_n dX2_join_6)) (kE_iload_n dX2_join_7)) dX2_join_8 c_Joiner_headOf mv_Joiner_headOf lm_RX2_41 ⟨rfl, rfl, by decide, by decide⟩ (by decide)) (kSet_istore dX2_join_11 (by decide)))
  (kSt_seq (kSt_let (kE_bin (kE_bin (kE_call (kEs_snoc (kEs_snoc kEs_nil (kE_aload_n dX2_join_13)) (kE_iload_n dX2_join_14)) dX2_join_15 c_Joiner_sideOf mv_Joiner_sideOf lm_RX2_45 ⟨rfl, rfl, by decide, by decide⟩ (by decide)) (kE_call (kEs_snoc (kEs_snoc kEs_nil (kE_aload_n dX2_join_18)) (kE_iload_n dX2_join_19)) dX2_join_20 c_Joiner_sideOf mv_Joiner_sideOf lm_RX2_45 ⟨rfl, rfl, by decide, by decide⟩ (by decide)) (kOp_xor dX2_join_23)) (kE_iconst dX2_join_24 ⟨by decide, by decide⟩) (kOp_xor dX2_join_25)) (kSet_istore dX2_join_26 (by decide)))
  (kSt_seq (kSt_if (kCd_C (kE_iload_n dX2_join_28) (kE_iload dX2_join_29) (kJf_0 (tgt := 68) dX2_join_31 (by decide))) (kSt_seq (kSt_if (kCd_and (kCd_C (kE_iload dX2_join_34) (kE_iconst dX2_join_36 ⟨by decide, by decide⟩) (kJf_0 (tgt := 66) dX2_join_37 (by decide))) (kCd_not (kCd_Z (kE_zald (kE_get (kE_aload_n dX2_join_40) lf_RX2_21 dX2_join_41) (kE_iload_n dX2_join_44) dX2_join_45) (kZt_1 (tgt := 66) dX2_join_46 (by decide))))) (kSt_seq (kSt_zast (kE_get (kE_aload_n dX2_join_49) lf_RX2_21 dX2_join_50) (kE_iload_n dX2_join_53) (kE_iconst dX2_join_54 ⟨by decide, by decide⟩) dX2_join_55)
  (kSt_putOp (kE_aload_n dX2_join_56) dX2_join_57 lf_RX2_29 dX2_join_58 (kE_iconst dX2_join_61 ⟨by decide, by decide⟩) (kOp_sub dX2_join_62) lp_RX2_29 dX2_join_63)) kSt_skip)
  (kSt_ret (tag := 0) (kE_iconst dX2_join_66 ⟨by decide, by decide⟩) ⟨fun _ => dX2_join_67, fun q => (by cases q), fun q => (by cases q)⟩)) kSt_skip)
  (kSt_seq (kSt_let (kE_if (kCd_C (kE_iald (kE_get (kE_aload_n dX2_join_68) lf_RX2_18 dX2_join_69) (kE_iload_n dX2_join_72) dX2_join_73) (kE_iald (kE_get (kE_aload_n dX2_join_74) lf_RX2_18 dX2_join_75) (kE_iload dX2_join_78) dX2_join_80) (kJf_3 (tgt := 88) dX2_join_81 (by decide))) (kE_goto (tgt := 89) (kE_iconst dX2_join_84 ⟨by decide, by decide⟩) dX2_join_85 (by decide)) (kE_iconst dX2_join_88 ⟨by decide, by decide⟩)) (kSet_istore dX2_join_89 (by decide)))
  (kSt_seq (kSt_call (kEs_snoc (kEs_snoc (kEs_snoc (kEs_snoc kEs_nil (kE_aload_n dX2_join_91)) (kE_if (kCd_Z (kE_iload dX2_join_92) (kZf_1 (tgt := 102) dX2_join_94 (by decide))) (kE_goto (tgt := 103) (kE_iload dX2_join_97) dX2_join_99 (by decide)) (kE_iload_n dX2_join_102))) (kE_if (kCd_Z (kE_iload dX2_join_103) (kZf_1 (tgt := 112) dX2_join_105 (by decide))) (kE_goto (tgt := 114) (kE_iload_n dX2_join_108) dX2_join_109 (by decide)) (kE_iload dX2_join_112))) (kE_iload dX2_join_114)) dX2_join_116 c_Joiner_hang mv_Joiner_hang lm_RX2_48 ⟨rfl, rfl, by decide, by decide⟩)
  (kSt_ret (tag := 0) (kE_iconst dX2_join_119 ⟨by decide, by decide⟩) ⟨fun _ => dX2_join_120, fun q => (by cases q), fun q => (by cases q)⟩)))))))
def F_Joiner_join : kFn := kF 3 kZ s_Joiner_join
theorem c_Joiner_join : kCon yX2_join cX2_join 7 (some .boolean) { frames := 2, cells := 0, slots := 0, locals := 44 } F_Joiner_join := kCon_of kEnds_Z (by decide +kernel) (by decide) ⟨0, 0, 0, b_Joiner_join⟩
def s_Web_hasNode : kSx :=
  (sRet 0 (eIf (cAnd (cZ 3 (eI 1)) (cC 2 (eI 1) (eGet 10 3 (eR 0)))) (eK (1)) (eK (0))))
abbrev M_Web_hasNode : kM := (cX10_hasNode, yX10_hasNode.cls, 2, { frames := 0, cells := 0, slots := 0, locals := 0 }, (some .boolean))
set_option maxRecDepth 20000 in
theorem b_Web_hasNode : kSt M_Web_hasNode 0 0 0 0 s_Web_hasNode :=
  (kSt_ret (tag := 0) (kE_if (kCd_and (kCd_Z (kE_iload_n dX10_hasNode_0) (kZf_3 (tgt := 16) dX10_hasNode_1 (by decide))) (kCd_C (kE_iload_n dX10_hasNode_4) (kE_get (kE_aload_n dX10_hasNode_5) lf_RX10_35 dX10_hasNode_6) (kJf_2 (tgt := 16) dX10_hasNode_9 (by decide)))) (kE_goto (tgt := 17) (kE_iconst dX10_hasNode_12 ⟨by decide, by decide⟩) dX10_hasNode_13 (by decide)) (kE_iconst dX10_hasNode_16 ⟨by decide, by decide⟩)) ⟨fun _ => dX10_hasNode_17, fun q => (by cases q), fun q => (by cases q)⟩)
def F_Web_hasNode : kFn := kF 2 kZ s_Web_hasNode
theorem c_Web_hasNode : kCon yX10_hasNode cX10_hasNode 2 (some .boolean) { frames := 0, cells := 0, slots := 0, locals := 0 } F_Web_hasNode := kCon_of kEnds_Z (by decide +kernel) (by decide) ⟨0, 0, 0, b_Web_hasNode⟩
def s_Web_hasArc : kSx :=
  (sRet 0 (eIf (cAnd (cAnd (cZ 3 (eI 1)) (cC 2 (eI 1) (eGet 10 9 (eR 0)))) (cZ 1 (eAld 1 (eGet 10 8 (eR 0)) (eI 1)))) (eK (1)) (eK (0))))
abbrev M_Web_hasArc : kM := (cX10_hasArc, yX10_hasArc.cls, 2, { frames := 0, cells := 0, slots := 0, locals := 0 }, (some .boolean))
set_option maxRecDepth 20000 in
theorem b_Web_hasArc : kSt M_Web_hasArc 0 0 0 0 s_Web_hasArc :=
  (kSt_ret (tag := 0) (kE_if (kCd_and (kCd_and (kCd_Z (kE_iload_n dX10_hasArc_0) (kZf_3 (tgt := 25) dX10_hasArc_1 (by decide))) (kCd_C (kE_iload_n dX10_hasArc_4) (kE_get (kE_aload_n dX10_hasArc_5) lf_RX10_39 dX10_hasArc_6) (kJf_2 (tgt := 25) dX10_hasArc_9 (by decide)))) (kCd_Z (kE_zald (kE_get (kE_aload_n dX10_hasArc_12) lf_RX10_31 dX10_hasArc_13) (kE_iload_n dX10_hasArc_16) dX10_hasArc_17) (kZf_1 (tgt := 25) dX10_hasArc_18 (by decide)))) (kE_goto (tgt := 26) (kE_iconst dX10_hasArc_21 ⟨by decide, by decide⟩) dX10_hasArc_22 (by decide)) (kE_iconst dX10_hasArc_25 ⟨by decide, by decide⟩)) ⟨fun _ => dX10_hasArc_26, fun q => (by cases q), fun q => (by cases q)⟩)
def F_Web_hasArc : kFn := kF 2 kZ s_Web_hasArc
theorem c_Web_hasArc : kCon yX10_hasArc cX10_hasArc 2 (some .boolean) { frames := 0, cells := 0, slots := 0, locals := 0 } F_Web_hasArc := kCon_of kEnds_Z (by decide +kernel) (by decide) ⟨0, 0, 0, b_Web_hasArc⟩
def s_Web_hasRoom : kSx :=
  (sRet 0 (eIf (cAnd (cC 5 (eI 1) (eBin kSub (eK (900)) (eGet 10 4 (eR 0)))) (cC 5 (eI 1) (eBin kSub (eK (5000)) (eGet 10 9 (eR 0))))) (eK (1)) (eK (0))))
abbrev M_Web_hasRoom : kM := (cX10_hasRoom, yX10_hasRoom.cls, 2, { frames := 0, cells := 0, slots := 0, locals := 0 }, (some .boolean))
set_option maxRecDepth 20000 in
theorem b_Web_hasRoom : kSt M_Web_hasRoom 0 0 0 0 s_Web_hasRoom :=
  (kSt_ret (tag := 0) (kE_if (kCd_and (kCd_C (kE_iload_n dX10_hasRoom_0) (kE_bin (kE_sipush dX10_hasRoom_1 (by rfl) ⟨by decide, by decide⟩) (kE_get (kE_aload_n dX10_hasRoom_4) lf_RX10_42 dX10_hasRoom_5) (kOp_sub dX10_hasRoom_8)) (kJf_5 (tgt := 28) dX10_hasRoom_9 (by decide))) (kCd_C (kE_iload_n dX10_hasRoom_12) (kE_bin (kE_sipush dX10_hasRoom_13 (by rfl) ⟨by decide, by decide⟩) (kE_get (kE_aload_n dX10_hasRoom_16) lf_RX10_39 dX10_hasRoom_17) (kOp_sub dX10_hasRoom_20)) (kJf_5 (tgt := 28) dX10_hasRoom_21 (by decide)))) (kE_goto (tgt := 29) (kE_iconst dX10_hasRoom_24 ⟨by decide, by decide⟩) dX10_hasRoom_25 (by decide)) (kE_iconst dX10_hasRoom_28 ⟨by decide, by decide⟩)) ⟨fun _ => dX10_hasRoom_29, fun q => (by cases q), fun q => (by cases q)⟩)
def F_Web_hasRoom : kFn := kF 2 kZ s_Web_hasRoom
theorem c_Web_hasRoom : kCon yX10_hasRoom cX10_hasRoom 2 (some .boolean) { frames := 0, cells := 0, slots := 0, locals := 0 } F_Web_hasRoom := kCon_of kEnds_Z (by decide +kernel) (by decide) ⟨0, 0, 0, b_Web_hasRoom⟩
def s_Web_addNode : kSx :=
  (sSeq (sLet 0 1 (eGet 10 3 (eR 0)))
  (sSeq (sCall 1 F_Fan_addNode (eSnoc eNil (eGet 10 6 (eR 0))))
  (sSeq (sCall 1 F_Fan_addNode (eSnoc eNil (eGet 10 7 (eR 0))))
  (sSeq (sPutOp 10 3 (eR 0) kAdd (eK (1)))
  (sSeq (sPutOp 10 5 (eR 0) kAdd (eK (1)))
  (sRet 0 (eI 1)))))))
abbrev M_Web_addNode : kM := (cX10_addNode, yX10_addNode.cls, 2, { frames := 1, cells := 0, slots := 0, locals := 20 }, (some .int))
set_option maxRecDepth 20000 in
theorem b_Web_addNode : kSt M_Web_addNode 0 0 0 0 s_Web_addNode :=
  (kSt_seq (kSt_let (kE_get (kE_aload_n dX10_addNode_0) lf_RX10_35 dX10_addNode_1) (kSet_istore_n dX10_addNode_4 (by decide)))
  (kSt_seq (kSt_call (kEs_snoc kEs_nil (kE_get (kE_aload_n dX10_addNode_5) lf_RX10_24 dX10_addNode_6)) dX10_addNode_9 c_Fan_addNode mv_Fan_addNode lm_RX10_45 ⟨rfl, rfl, by decide, by decide⟩)
  (kSt_seq (kSt_call (kEs_snoc kEs_nil (kE_get (kE_aload_n dX10_addNode_12) lf_RX10_28 dX10_addNode_13)) dX10_addNode_16 c_Fan_addNode mv_Fan_addNode lm_RX10_45 ⟨rfl, rfl, by decide, by decide⟩)
  (kSt_seq (kSt_putOp (kE_aload_n dX10_addNode_19) dX10_addNode_20 lf_RX10_35 dX10_addNode_21 (kE_iconst dX10_addNode_24 ⟨by decide, by decide⟩) (kOp_add dX10_addNode_25) lp_RX10_35 dX10_addNode_26)
  (kSt_seq (kSt_putOp (kE_aload_n dX10_addNode_29) dX10_addNode_30 lf_RX10_48 dX10_addNode_31 (kE_iconst dX10_addNode_34 ⟨by decide, by decide⟩) (kOp_add dX10_addNode_35) lp_RX10_48 dX10_addNode_36)
  (kSt_ret (tag := 0) (kE_iload_n dX10_addNode_39) ⟨fun _ => dX10_addNode_40, fun q => (by cases q), fun q => (by cases q)⟩))))))
def F_Web_addNode : kFn := kF 1 kI s_Web_addNode
theorem c_Web_addNode : kCon yX10_addNode cX10_addNode 2 (some .int) { frames := 1, cells := 0, slots := 0, locals := 20 } F_Web_addNode := kCon_of kEnds_I (by decide +kernel) (by decide) ⟨0, 0, 0, b_Web_addNode⟩
def s_Web_addArc : kSx :=
  (sSeq (sLet 0 3 (eGet 10 9 (eR 0)))
  (sSeq (sAst 0 (eGet 10 0 (eR 0)) (eI 3) (eI 1))
  (sSeq (sAst 0 (eGet 10 1 (eR 0)) (eI 3) (eI 2))
  (sSeq (sAst 1 (eGet 10 8 (eR 0)) (eI 3) (eK (1)))
  (sSeq (sAst 0 (eGet 10 2 (eR 0)) (eGet 10 4 (eR 0)) (eI 3))
  (sSeq (sCall 1 F_Fan_addArc (eSnoc (eSnoc (eSnoc eNil (eGet 10 6 (eR 0))) (eI 1)) (eI 3)))
  (sSeq (sCall 1 F_Fan_addArc (eSnoc (eSnoc (eSnoc eNil (eGet 10 7 (eR 0))) (eI 2)) (eI 3)))
  (sSeq (sPutOp 10 9 (eR 0) kAdd (eK (1)))
  (sSeq (sPutOp 10 4 (eR 0) kAdd (eK (1)))
  (sSeq (sPutOp 10 5 (eR 0) kAdd (eK (1)))
  (sRet 0 (eI 3))))))))))))
abbrev M_Web_addArc : kM := (cX10_addArc, yX10_addArc.cls, 4, { frames := 1, cells := 0, slots := 0, locals := 24 }, (some .int))
set_option maxRecDepth 20000 in
theorem b_Web_addArc : kSt M_Web_addArc 0 0 0 0 s_Web_addArc :=
  (kSt_seq (kSt_let (kE_get (kE_aload_n dX10_addArc_0) lf_RX10_39 dX10_addArc_1) (kSet_istore_n dX10_addArc_4 (by decide)))
  (kSt_seq (kSt_iast (kE_get (kE_aload_n dX10_addArc_5) lf_RX10_9 dX10_addArc_6) (kE_iload_n dX10_addArc_9) (kE_iload_n dX10_addArc_10) dX10_addArc_11)
  (kSt_seq (kSt_iast (kE_get (kE_aload_n dX10_addArc_12) lf_RX10_15 dX10_addArc_13) (kE_iload_n dX10_addArc_16) (kE_iload_n dX10_addArc_17) dX10_addArc_18)
  (kSt_seq (kSt_zast (kE_get (kE_aload_n dX10_addArc_19) lf_RX10_31 dX10_addArc_20) (kE_iload_n dX10_addArc_23) (kE_iconst dX10_addArc_24 ⟨by decide, by decide⟩) dX10_addArc_25)
  (kSt_seq (kSt_iast (kE_get (kE_aload_n dX10_addArc_26) lf_RX10_18 dX10_addArc_27) (kE_get (kE_aload_n dX10_addArc_30) lf_RX10_42 dX10_addArc_31) (kE_iload_n dX10_addArc_34) dX10_addArc_35)
  (kSt_seq (kSt_call (kEs_snoc (kEs_snoc (kEs_snoc kEs_nil (kE_get (kE_aload_n dX10_addArc_36) lf_RX10_24 dX10_addArc_37)) (kE_iload_n dX10_addArc_40)) (kE_iload_n dX10_addArc_41)) dX10_addArc_42 c_Fan_addArc mv_Fan_addArc lm_RX10_51 ⟨rfl, rfl, by decide, by decide⟩)
  (kSt_seq (kSt_call (kEs_snoc (kEs_snoc (kEs_snoc kEs_nil (kE_get (kE_aload_n dX10_addArc_45) lf_RX10_28 dX10_addArc_46)) (kE_iload_n dX10_addArc_49)) (kE_iload_n dX10_addArc_50)) dX10_addArc_51 c_Fan_addArc mv_Fan_addArc lm_RX10_51 ⟨rfl, rfl, by decide, by decide⟩)
  (kSt_seq (kSt_putOp (kE_aload_n dX10_addArc_54) dX10_addArc_55 lf_RX10_39 dX10_addArc_56 (kE_iconst dX10_addArc_59 ⟨by decide, by decide⟩) (kOp_add dX10_addArc_60) lp_RX10_39 dX10_addArc_61)
  (kSt_seq (kSt_putOp (kE_aload_n dX10_addArc_64) dX10_addArc_65 lf_RX10_42 dX10_addArc_66 (kE_iconst dX10_addArc_69 ⟨by decide, by decide⟩) (kOp_add dX10_addArc_70) lp_RX10_42 dX10_addArc_71)
  (kSt_seq (kSt_putOp (kE_aload_n dX10_addArc_74) dX10_addArc_75 lf_RX10_48 dX10_addArc_76 (kE_iconst dX10_addArc_79 ⟨by decide, by decide⟩) (kOp_add dX10_addArc_80) lp_RX10_48 dX10_addArc_81)
  (kSt_ret (tag := 0) (kE_iload_n dX10_addArc_84) ⟨fun _ => dX10_addArc_85, fun q => (by cases q), fun q => (by cases q)⟩)))))))))))
def F_Web_addArc : kFn := kF 3 kI s_Web_addArc
theorem c_Web_addArc : kCon yX10_addArc cX10_addArc 4 (some .int) { frames := 1, cells := 0, slots := 0, locals := 24 } F_Web_addArc := kCon_of kEnds_I (by decide +kernel) (by decide) ⟨0, 0, 0, b_Web_addArc⟩
def s_Web_removeArc : kSx :=
  (sSeq (sSeq (sPut 10 4 (eR 0) (eCallS F_KP_leaveOut (eSnoc (eSnoc (eSnoc eNil (eGet 10 2 (eR 0))) (eGet 10 4 (eR 0))) (eI 1))))
  (sSeq (sCall 1 F_Fan_removeArc (eSnoc (eSnoc (eSnoc eNil (eGet 10 6 (eR 0))) (eAld 0 (eGet 10 0 (eR 0)) (eI 1))) (eI 1)))
  (sSeq (sCall 1 F_Fan_removeArc (eSnoc (eSnoc (eSnoc eNil (eGet 10 7 (eR 0))) (eAld 0 (eGet 10 1 (eR 0)) (eI 1))) (eI 1)))
  (sSeq (sAst 1 (eGet 10 8 (eR 0)) (eI 1) (eK (0)))
  (sPutOp 10 5 (eR 0) kAdd (eK (1))))))) sRetV)
abbrev M_Web_removeArc : kM := (cX10_removeArc, yX10_removeArc.cls, 2, { frames := 2, cells := 0, slots := 0, locals := 47 }, none)
set_option maxRecDepth 20000 in
theorem b_Web_removeArc : kSt M_Web_removeArc 0 0 0 0 s_Web_removeArc :=
  (kSt_seq (kSt_seq (kSt_put (kE_aload_n dX10_removeArc_0) (kE_callN (kEs_snoc (kEs_snoc (kEs_snoc kEs_nil (kE_get (kE_aload_n dX10_removeArc_1) lf_RX10_18 dX10_removeArc_2)) (kE_get (kE_aload_n dX10_removeArc_5) lf_RX10_42 dX10_removeArc_6)) (kE_iload_n dX10_removeArc_9)) dX10_removeArc_10 c_KP_leaveOut mv_KP_leaveOut lm_RX10_55 ⟨rfl, rfl, by decide, by decide⟩ (by decide)) lp_RX10_42 dX10_removeArc_13)
  (kSt_seq (kSt_call (kEs_snoc (kEs_snoc (kEs_snoc kEs_nil (kE_get (kE_aload_n dX10_removeArc_16) lf_RX10_24 dX10_removeArc_17)) (kE_iald (kE_get (kE_aload_n dX10_removeArc_20) lf_RX10_9 dX10_removeArc_21) (kE_iload_n dX10_removeArc_24) dX10_removeArc_25)) (kE_iload_n dX10_removeArc_26)) dX10_removeArc_27 c_Fan_removeArc mv_Fan_removeArc lm_RX10_59 ⟨rfl, rfl, by decide, by decide⟩)
  (kSt_seq (kSt_call (kEs_snoc (kEs_snoc (kEs_snoc kEs_nil (kE_get (kE_aload_n dX10_removeArc_30) lf_RX10_28 dX10_removeArc_31)) (kE_iald (kE_get (kE_aload_n dX10_removeArc_34) lf_RX10_15 dX10_removeArc_35) (kE_iload_n dX10_removeArc_38) dX10_removeArc_39)) (kE_iload_n dX10_removeArc_40)) dX10_removeArc_41 c_Fan_removeArc mv_Fan_removeArc lm_RX10_59 ⟨rfl, rfl, by decide, by decide⟩)
  (kSt_seq (kSt_zast (kE_get (kE_aload_n dX10_removeArc_44) lf_RX10_31 dX10_removeArc_45) (kE_iload_n dX10_removeArc_48) (kE_iconst dX10_removeArc_49 ⟨by decide, by decide⟩) dX10_removeArc_50)
  (kSt_putOp (kE_aload_n dX10_removeArc_51) dX10_removeArc_52 lf_RX10_48 dX10_removeArc_53 (kE_iconst dX10_removeArc_56 ⟨by decide, by decide⟩) (kOp_add dX10_removeArc_57) lp_RX10_48 dX10_removeArc_58))))) (kSt_retV dX10_removeArc_61))
def F_Web_removeArc : kFn := kF 2 kN s_Web_removeArc
theorem c_Web_removeArc : kCon yX10_removeArc cX10_removeArc 2 none { frames := 2, cells := 0, slots := 0, locals := 47 } F_Web_removeArc := kCon_of kEnds_V (by decide +kernel) (by decide) ⟨0, 0, 0, b_Web_removeArc⟩
def s_Web_empty : kSx :=
  (sSeq (sSeq (sPut 10 3 (eR 0) (eK (0)))
  (sSeq (sPut 10 4 (eR 0) (eK (0)))
  (sSeq (sPut 10 9 (eR 0) (eK (0)))
  (sSeq (sCall 1 F_Fan_empty (eSnoc eNil (eGet 10 6 (eR 0))))
  (sSeq (sCall 1 F_Fan_empty (eSnoc eNil (eGet 10 7 (eR 0))))
  (sPutOp 10 5 (eR 0) kAdd (eK (1)))))))) sRetV)
abbrev M_Web_empty : kM := (cX10_empty, yX10_empty.cls, 1, { frames := 1, cells := 0, slots := 0, locals := 20 }, none)
set_option maxRecDepth 20000 in
theorem b_Web_empty : kSt M_Web_empty 0 0 0 0 s_Web_empty :=
  (kSt_seq (kSt_seq (kSt_put (kE_aload_n dX10_empty_0) (kE_iconst dX10_empty_1 ⟨by decide, by decide⟩) lp_RX10_35 dX10_empty_2)
  (kSt_seq (kSt_put (kE_aload_n dX10_empty_5) (kE_iconst dX10_empty_6 ⟨by decide, by decide⟩) lp_RX10_42 dX10_empty_7)
  (kSt_seq (kSt_put (kE_aload_n dX10_empty_10) (kE_iconst dX10_empty_11 ⟨by decide, by decide⟩) lp_RX10_39 dX10_empty_12)
  (kSt_seq (kSt_call (kEs_snoc kEs_nil (kE_get (kE_aload_n dX10_empty_15) lf_RX10_24 dX10_empty_16)) dX10_empty_19 c_Fan_empty mv_Fan_empty lm_RX10_62 ⟨rfl, rfl, by decide, by decide⟩)
  (kSt_seq (kSt_call (kEs_snoc kEs_nil (kE_get (kE_aload_n dX10_empty_22) lf_RX10_28 dX10_empty_23)) dX10_empty_26 c_Fan_empty mv_Fan_empty lm_RX10_62 ⟨rfl, rfl, by decide, by decide⟩)
  (kSt_putOp (kE_aload_n dX10_empty_29) dX10_empty_30 lf_RX10_48 dX10_empty_31 (kE_iconst dX10_empty_34 ⟨by decide, by decide⟩) (kOp_add dX10_empty_35) lp_RX10_48 dX10_empty_36)))))) (kSt_retV dX10_empty_39))
def F_Web_empty : kFn := kF 1 kN s_Web_empty
theorem c_Web_empty : kCon yX10_empty cX10_empty 1 none { frames := 1, cells := 0, slots := 0, locals := 20 } F_Web_empty := kCon_of kEnds_V (by decide +kernel) (by decide) ⟨0, 0, 0, b_Web_empty⟩
def s_Web_other : kSx :=
  (sRet 0 (eIf (cC 0 (eAld 0 (eGet 10 0 (eR 0)) (eI 1)) (eI 2)) (eAld 0 (eGet 10 1 (eR 0)) (eI 1)) (eAld 0 (eGet 10 0 (eR 0)) (eI 1))))
abbrev M_Web_other : kM := (cX10_other, yX10_other.cls, 3, { frames := 0, cells := 0, slots := 0, locals := 0 }, (some .int))
set_option maxRecDepth 20000 in
theorem b_Web_other : kSt M_Web_other 0 0 0 0 s_Web_other :=
  (kSt_ret (tag := 0) (kE_if (kCd_C (kE_iald (kE_get (kE_aload_n dX10_other_0) lf_RX10_9 dX10_other_1) (kE_iload_n dX10_other_4) dX10_other_5) (kE_iload_n dX10_other_6) (kJf_0 (tgt := 19) dX10_other_7 (by decide))) (kE_goto (tgt := 25) (kE_iald (kE_get (kE_aload_n dX10_other_10) lf_RX10_15 dX10_other_11) (kE_iload_n dX10_other_14) dX10_other_15) dX10_other_16 (by decide)) (kE_iald (kE_get (kE_aload_n dX10_other_19) lf_RX10_9 dX10_other_20) (kE_iload_n dX10_other_23) dX10_other_24)) ⟨fun _ => dX10_other_25, fun q => (by cases q), fun q => (by cases q)⟩)
def F_Web_other : kFn := kF 3 kI s_Web_other
theorem c_Web_other : kCon yX10_other cX10_other 3 (some .int) { frames := 0, cells := 0, slots := 0, locals := 0 } F_Web_other := kCon_of kEnds_I (by decide +kernel) (by decide) ⟨0, 0, 0, b_Web_other⟩
def s_Web_degree : kSx :=
  (sRet 0 (eBin kSub (eBin kAdd (eBin kSub (eAld 0 (eGet 1 1 (eGet 10 6 (eR 0))) (eBin kAdd (eI 1) (eK (1)))) (eAld 0 (eGet 1 1 (eGet 10 6 (eR 0))) (eI 1))) (eAld 0 (eGet 1 1 (eGet 10 7 (eR 0))) (eBin kAdd (eI 1) (eK (1))))) (eAld 0 (eGet 1 1 (eGet 10 7 (eR 0))) (eI 1))))
abbrev M_Web_degree : kM := (cX10_degree, yX10_degree.cls, 2, { frames := 0, cells := 0, slots := 0, locals := 0 }, (some .int))
set_option maxRecDepth 20000 in
theorem b_Web_degree : kSt M_Web_degree 0 0 0 0 s_Web_degree :=
  (kSt_ret (tag := 0) (kE_bin (kE_bin (kE_bin (kE_iald (kE_get (kE_get (kE_aload_n dX10_degree_0) lf_RX10_24 dX10_degree_1) lf_RX10_65 dX10_degree_4) (kE_bin (kE_iload_n dX10_degree_7) (kE_iconst dX10_degree_8 ⟨by decide, by decide⟩) (kOp_add dX10_degree_9)) dX10_degree_10) (kE_iald (kE_get (kE_get (kE_aload_n dX10_degree_11) lf_RX10_24 dX10_degree_12) lf_RX10_65 dX10_degree_15) (kE_iload_n dX10_degree_18) dX10_degree_19) (kOp_sub dX10_degree_20)) (kE_iald (kE_get (kE_get (kE_aload_n dX10_degree_21) lf_RX10_28 dX10_degree_22) lf_RX10_65 dX10_degree_25) (kE_bin (kE_iload_n dX10_degree_28) (kE_iconst dX10_degree_29 ⟨by decide, by decide⟩) (kOp_add dX10_degree_30)) dX10_degree_31) (kOp_add dX10_degree_32)) (kE_iald (kE_get (kE_get (kE_aload_n dX10_degree_33) lf_RX10_28 dX10_degree_34) lf_RX10_65 dX10_degree_37) (kE_iload_n dX10_degree_40) dX10_degree_41) (kOp_sub dX10_degree_42)) ⟨fun _ => dX10_degree_43, fun q => (by cases q), fun q => (by cases q)⟩)
def F_Web_degree : kFn := kF 2 kI s_Web_degree
theorem c_Web_degree : kCon yX10_degree cX10_degree 2 (some .int) { frames := 0, cells := 0, slots := 0, locals := 0 } F_Web_degree := kCon_of kEnds_I (by decide +kernel) (by decide) ⟨0, 0, 0, b_Web_degree⟩
def s_Web_arcAt : kSx :=
  (sSeq (sLet 0 3 (eBin kSub (eAld 0 (eGet 1 1 (eGet 10 6 (eR 0))) (eBin kAdd (eI 1) (eK (1)))) (eAld 0 (eGet 1 1 (eGet 10 6 (eR 0))) (eI 1))))
  (sRet 0 (eIf (cC 2 (eI 2) (eI 3)) (eAld 0 (eGet 1 0 (eGet 10 6 (eR 0))) (eBin kAdd (eAld 0 (eGet 1 1 (eGet 10 6 (eR 0))) (eI 1)) (eI 2))) (eAld 0 (eGet 1 0 (eGet 10 7 (eR 0))) (eBin kSub (eBin kAdd (eAld 0 (eGet 1 1 (eGet 10 7 (eR 0))) (eI 1)) (eI 2)) (eI 3))))))
abbrev M_Web_arcAt : kM := (cX10_arcAt, yX10_arcAt.cls, 4, { frames := 0, cells := 0, slots := 0, locals := 0 }, (some .int))
set_option maxRecDepth 20000 in
theorem b_Web_arcAt : kSt M_Web_arcAt 0 0 0 0 s_Web_arcAt :=
  (kSt_seq (kSt_let (kE_bin (kE_iald (kE_get (kE_get (kE_aload_n dX10_arcAt_0) lf_RX10_24 dX10_arcAt_1) lf_RX10_65 dX10_arcAt_4) (kE_bin (kE_iload_n dX10_arcAt_7) (kE_iconst dX10_arcAt_8 ⟨by decide, by decide⟩) (kOp_add dX10_arcAt_9)) dX10_arcAt_10) (kE_iald (kE_get (kE_get (kE_aload_n dX10_arcAt_11) lf_RX10_24 dX10_arcAt_12) lf_RX10_65 dX10_arcAt_15) (kE_iload_n dX10_arcAt_18) dX10_arcAt_19) (kOp_sub dX10_arcAt_20)) (kSet_istore_n dX10_arcAt_21 (by decide)))
  (kSt_ret (tag := 0) (kE_if (kCd_C (kE_iload_n dX10_arcAt_22) (kE_iload_n dX10_arcAt_23) (kJf_2 (tgt := 49) dX10_arcAt_24 (by decide))) (kE_goto (tgt := 70) (kE_iald (kE_get (kE_get (kE_aload_n dX10_arcAt_27) lf_RX10_24 dX10_arcAt_28) lf_RX10_68 dX10_arcAt_31) (kE_bin (kE_iald (kE_get (kE_get (kE_aload_n dX10_arcAt_34) lf_RX10_24 dX10_arcAt_35) lf_RX10_65 dX10_arcAt_38) (kE_iload_n dX10_arcAt_41) dX10_arcAt_42) (kE_iload_n dX10_arcAt_43) (kOp_add dX10_arcAt_44)) dX10_arcAt_45) dX10_arcAt_46 (by decide)) (kE_iald (kE_get (kE_get (kE_aload_n dX10_arcAt_49) lf_RX10_28 dX10_arcAt_50) lf_RX10_68 dX10_arcAt_53) (kE_bin (kE_bin (kE_iald (kE_get (kE_get (kE_aload_n dX10_arcAt_56) lf_RX10_28 dX10_arcAt_57) lf_RX10_65 dX10_arcAt_60) (kE_iload_n dX10_arcAt_63) dX10_arcAt_64) (kE_iload_n dX10_arcAt_65) (kOp_add dX10_arcAt_66)) (kE_iload_n dX10_arcAt_67) (kOp_sub dX10_arcAt_68)) dX10_arcAt_69)) ⟨fun _ => dX10_arcAt_70, fun q => (by cases q), fun q => (by cases q)⟩))
def F_Web_arcAt : kFn := kF 3 kI s_Web_arcAt
theorem c_Web_arcAt : kCon yX10_arcAt cX10_arcAt 4 (some .int) { frames := 0, cells := 0, slots := 0, locals := 0 } F_Web_arcAt := kCon_of kEnds_I (by decide +kernel) (by decide) ⟨0, 0, 0, b_Web_arcAt⟩
def s_Trees_together : kSx :=
  (sRet 0 (eIf (cC 0 (eAld 0 (eGet 8 2 (eR 0)) (eI 1)) (eAld 0 (eGet 8 2 (eR 0)) (eI 2))) (eK (1)) (eK (0))))
abbrev M_Trees_together : kM := (cX8_together, yX8_together.cls, 3, { frames := 0, cells := 0, slots := 0, locals := 0 }, (some .boolean))
set_option maxRecDepth 20000 in
theorem b_Trees_together : kSt M_Trees_together 0 0 0 0 s_Trees_together :=
  (kSt_ret (tag := 0) (kE_if (kCd_C (kE_iald (kE_get (kE_aload_n dX8_together_0) lf_RX8_19 dX8_together_1) (kE_iload_n dX8_together_4) dX8_together_5) (kE_iald (kE_get (kE_aload_n dX8_together_6) lf_RX8_19 dX8_together_7) (kE_iload_n dX8_together_10) dX8_together_11) (kJf_0 (tgt := 19) dX8_together_12 (by decide))) (kE_goto (tgt := 20) (kE_iconst dX8_together_15 ⟨by decide, by decide⟩) dX8_together_16 (by decide)) (kE_iconst dX8_together_19 ⟨by decide, by decide⟩)) ⟨fun _ => dX8_together_20, fun q => (by cases q), fun q => (by cases q)⟩)
def F_Trees_together : kFn := kF 3 kZ s_Trees_together
theorem c_Trees_together : kCon yX8_together cX8_together 3 (some .boolean) { frames := 0, cells := 0, slots := 0, locals := 0 } F_Trees_together := kCon_of kEnds_Z (by decide +kernel) (by decide) ⟨0, 0, 0, b_Trees_together⟩
def l_Trees_treeArcs_1 : kSx := sFor 3 (cC 2 (eI 2) (eGet 10 4 (eGet 8 6 (eR 0))))
  (sIf (cZ 1 (eAld 1 (eGet 8 1 (eR 0)) (eAld 0 (eGet 10 2 (eGet 8 6 (eR 0))) (eI 2)))) (sInc 1 (1)) sSkip)
  (sInc 2 (1))
def s_Trees_treeArcs : kSx :=
  (sSeq (sLet 0 1 (eK (0)))
  (sSeq (sTrunc 2 (sSeq (sLet 0 2 (eK (0))) l_Trees_treeArcs_1))
  (sRet 0 (eI 1))))
abbrev M_Trees_treeArcs : kM := (cX8_treeArcs, yX8_treeArcs.cls, 3, { frames := 0, cells := 0, slots := 0, locals := 0 }, (some .int))
set_option maxRecDepth 20000 in
theorem b_Trees_treeArcs : kSt M_Trees_treeArcs 0 0 0 0 s_Trees_treeArcs :=
  (kSt_seq (kSt_let (kE_iconst dX8_treeArcs_0 ⟨by decide, by decide⟩) (kSet_istore_n dX8_treeArcs_1 (by decide)))
  (kSt_seq (kSt_trunc (kSt_seq (kSt_let (kE_iconst dX8_treeArcs_2 ⟨by decide, by decide⟩) (kSet_istore_n dX8_treeArcs_3 (by decide))) (kSt_for (pu := 35) (pt := 15) (kCd_C (kE_iload_n dX8_treeArcs_4) (kE_get (kE_get (kE_aload_n dX8_treeArcs_5) lf_RX8_37 dX8_treeArcs_6) lf_RX8_51 dX8_treeArcs_9) (kJf_2 (tgt := 41) dX8_treeArcs_12 (by decide))) (kSt_if (kCd_Z (kE_zald (kE_get (kE_aload_n dX8_treeArcs_15) lf_RX8_15 dX8_treeArcs_16) (kE_iald (kE_get (kE_get (kE_aload_n dX8_treeArcs_19) lf_RX8_37 dX8_treeArcs_20) lf_RX8_54 dX8_treeArcs_23) (kE_iload_n dX8_treeArcs_26) dX8_treeArcs_27) dX8_treeArcs_28) (kZf_1 (tgt := 35) dX8_treeArcs_29 (by decide))) (kSt_inc dX8_treeArcs_32 (by decide)) kSt_skip) (kSt_goto (tgt := 4) (kSt_inc dX8_treeArcs_35 (by decide)) dX8_treeArcs_38 (by decide)))))
  (kSt_ret (tag := 0) (kE_iload_n dX8_treeArcs_41) ⟨fun _ => dX8_treeArcs_42, fun q => (by cases q), fun q => (by cases q)⟩)))
def F_Trees_treeArcs : kFn := kF 1 kI s_Trees_treeArcs
theorem c_Trees_treeArcs : kCon yX8_treeArcs cX8_treeArcs 3 (some .int) { frames := 0, cells := 0, slots := 0, locals := 0 } F_Trees_treeArcs := kCon_of kEnds_I (by decide +kernel) (by decide) ⟨0, 0, 0, b_Trees_treeArcs⟩
def s_Trees_parts : kSx :=
  (sRet 0 (eBin kSub (eGet 10 3 (eGet 8 6 (eR 0))) (eCall 8 F_Trees_treeArcs (eSnoc eNil (eR 0)))))
abbrev M_Trees_parts : kM := (cX8_parts, yX8_parts.cls, 1, { frames := 1, cells := 0, slots := 0, locals := 22 }, (some .int))
set_option maxRecDepth 20000 in
theorem b_Trees_parts : kSt M_Trees_parts 0 0 0 0 s_Trees_parts :=
  (kSt_ret (tag := 0) (kE_bin (kE_get (kE_get (kE_aload_n dX8_parts_0) lf_RX8_37 dX8_parts_1) lf_RX8_41 dX8_parts_4) (kE_call (kEs_snoc kEs_nil (kE_aload_n dX8_parts_7)) dX8_parts_8 c_Trees_treeArcs mv_Trees_treeArcs lm_RX8_47 ⟨rfl, rfl, by decide, by decide⟩ (by decide)) (kOp_sub dX8_parts_11)) ⟨fun _ => dX8_parts_12, fun q => (by cases q), fun q => (by cases q)⟩)
def F_Trees_parts : kFn := kF 1 kI s_Trees_parts
theorem c_Trees_parts : kCon yX8_parts cX8_parts 1 (some .int) { frames := 1, cells := 0, slots := 0, locals := 22 } F_Trees_parts := kCon_of kEnds_I (by decide +kernel) (by decide) ⟨0, 0, 0, b_Trees_parts⟩
def l_Trees_greatestLevel_1 : kSx := sFor 3 (cC 2 (eI 2) (eGet 10 4 (eGet 8 6 (eR 0))))
  (sLet 0 1 (eMax (eI 1) (eAld 0 (eGet 8 0 (eR 0)) (eAld 0 (eGet 10 2 (eGet 8 6 (eR 0))) (eI 2)))))
  (sInc 2 (1))
def s_Trees_greatestLevel : kSx :=
  (sSeq (sLet 0 1 (eK (0)))
  (sSeq (sTrunc 2 (sSeq (sLet 0 2 (eK (0))) l_Trees_greatestLevel_1))
  (sRet 0 (eI 1))))
abbrev M_Trees_greatestLevel : kM := (cX8_greatestLevel, yX8_greatestLevel.cls, 3, { frames := 1, cells := 0, slots := 0, locals := 21 }, (some .int))
set_option maxRecDepth 20000 in
theorem b_Trees_greatestLevel : kSt M_Trees_greatestLevel 0 0 0 0 s_Trees_greatestLevel :=
  (kSt_seq (kSt_let (kE_iconst dX8_greatestLevel_0 ⟨by decide, by decide⟩) (kSet_istore_n dX8_greatestLevel_1 (by decide)))
  (kSt_seq (kSt_trunc (kSt_seq (kSt_let (kE_iconst dX8_greatestLevel_2 ⟨by decide, by decide⟩) (kSet_istore_n dX8_greatestLevel_3 (by decide))) (kSt_for (pu := 34) (pt := 15) (kCd_C (kE_iload_n dX8_greatestLevel_4) (kE_get (kE_get (kE_aload_n dX8_greatestLevel_5) lf_RX8_37 dX8_greatestLevel_6) lf_RX8_51 dX8_greatestLevel_9) (kJf_2 (tgt := 40) dX8_greatestLevel_12 (by decide))) (kSt_let (kE_max (kE_iload_n dX8_greatestLevel_15) (kE_iald (kE_get (kE_aload_n dX8_greatestLevel_16) lf_RX8_9 dX8_greatestLevel_17) (kE_iald (kE_get (kE_get (kE_aload_n dX8_greatestLevel_20) lf_RX8_37 dX8_greatestLevel_21) lf_RX8_54 dX8_greatestLevel_24) (kE_iload_n dX8_greatestLevel_27) dX8_greatestLevel_28) dX8_greatestLevel_29) dX8_greatestLevel_30 lM_RX8_57 mw_max ⟨by decide, by decide⟩ (by decide)) (kSet_istore_n dX8_greatestLevel_33 (by decide))) (kSt_goto (tgt := 4) (kSt_inc dX8_greatestLevel_34 (by decide)) dX8_greatestLevel_37 (by decide)))))
  (kSt_ret (tag := 0) (kE_iload_n dX8_greatestLevel_40) ⟨fun _ => dX8_greatestLevel_41, fun q => (by cases q), fun q => (by cases q)⟩)))
def F_Trees_greatestLevel : kFn := kF 1 kI s_Trees_greatestLevel
theorem c_Trees_greatestLevel : kCon yX8_greatestLevel cX8_greatestLevel 3 (some .int) { frames := 1, cells := 0, slots := 0, locals := 21 } F_Trees_greatestLevel := kCon_of kEnds_I (by decide +kernel) (by decide) ⟨0, 0, 0, b_Trees_greatestLevel⟩
def s_Trees_place : kSx :=
  (sSeq (sSeq (sAst 0 (eGet 8 2 (eR 0)) (eI 1) (eI 4))
  (sSeq (sAst 0 (eGet 8 3 (eR 0)) (eI 1) (eI 2))
  (sSeq (sAst 0 (eGet 8 4 (eR 0)) (eI 1) (eI 3))
  (sAst 0 (eGet 8 5 (eR 0)) (eI 1) (eI 5))))) sRetV)
abbrev M_Trees_place : kM := (cX8_place, yX8_place.cls, 6, { frames := 0, cells := 0, slots := 0, locals := 0 }, none)
set_option maxRecDepth 20000 in
theorem b_Trees_place : kSt M_Trees_place 0 0 0 0 s_Trees_place :=
  (kSt_seq (kSt_seq (kSt_iast (kE_get (kE_aload_n dX8_place_0) lf_RX8_19 dX8_place_1) (kE_iload_n dX8_place_4) (kE_iload dX8_place_5) dX8_place_7)
  (kSt_seq (kSt_iast (kE_get (kE_aload_n dX8_place_8) lf_RX8_22 dX8_place_9) (kE_iload_n dX8_place_12) (kE_iload_n dX8_place_13) dX8_place_14)
  (kSt_seq (kSt_iast (kE_get (kE_aload_n dX8_place_15) lf_RX8_25 dX8_place_16) (kE_iload_n dX8_place_19) (kE_iload_n dX8_place_20) dX8_place_21)
  (kSt_iast (kE_get (kE_aload_n dX8_place_22) lf_RX8_28 dX8_place_23) (kE_iload_n dX8_place_26) (kE_iload dX8_place_27) dX8_place_29)))) (kSt_retV dX8_place_30))
def F_Trees_place : kFn := kF 6 kN s_Trees_place
theorem c_Trees_place : kCon yX8_place cX8_place 6 none { frames := 0, cells := 0, slots := 0, locals := 0 } F_Trees_place := kCon_of kEnds_V (by decide +kernel) (by decide) ⟨0, 0, 0, b_Trees_place⟩
def l_Trees_hang_1 : kSx := sFor 11 (cC 2 (eI 10) (eI 9))
  (sTrunc 11 (sSeq (sLet 0 11 (eCall 10 F_Web_arcAt (eSnoc (eSnoc (eSnoc eNil (eGet 8 6 (eR 0))) (eI 8)) (eI 10))))
  (sSeq (sLet 0 12 (eCall 10 F_Web_other (eSnoc (eSnoc (eSnoc eNil (eGet 8 6 (eR 0))) (eI 11)) (eI 8))))
  (sIf (cAnd (cZ 1 (eAld 1 (eGet 8 1 (eR 0)) (eI 11))) (cC 1 (eAld 0 (eGet 8 2 (eR 0)) (eI 12)) (eI 4))) (sSeq (sCall 8 F_Trees_place (eSnoc (eSnoc (eSnoc (eSnoc (eSnoc (eSnoc eNil (eR 0)) (eI 12)) (eI 8)) (eI 11)) (eI 4)) (eBin kAdd (eAld 0 (eGet 8 5 (eR 0)) (eI 8)) (eK (1)))))
  (sSeq (sAst 0 (eGet 8 7 (eR 0)) (eI 6) (eI 12))
  (sInc 6 (1)))) sSkip))))
  (sInc 10 (1))
def l_Trees_hang_2 : kSx := sFor 8 (cAnd (cC 2 (eI 7) (eK (300))) (cC 2 (eI 7) (eI 6)))
  (sTrunc 8 (sSeq (sLet 0 8 (eAld 0 (eGet 8 7 (eR 0)) (eI 7)))
  (sSeq (sLet 0 9 (eCall 10 F_Web_degree (eSnoc (eSnoc eNil (eGet 8 6 (eR 0))) (eI 8))))
  (sTrunc 10 (sSeq (sLet 0 10 (eK (0))) l_Trees_hang_1)))))
  (sInc 7 (1))
def s_Trees_hang : kSx :=
  (sSeq (sSeq (sCall 8 F_Trees_place (eSnoc (eSnoc (eSnoc (eSnoc (eSnoc (eSnoc eNil (eR 0)) (eI 1)) (eI 2)) (eI 3)) (eI 4)) (eI 5)))
  (sSeq (sAst 0 (eGet 8 7 (eR 0)) (eK (0)) (eI 1))
  (sSeq (sLet 0 6 (eK (1)))
  (sTrunc 7 (sSeq (sLet 0 7 (eK (0))) l_Trees_hang_2))))) sRetV)
abbrev M_Trees_hang : kM := (cX8_hang, yX8_hang.cls, 13, { frames := 1, cells := 0, slots := 0, locals := 25 }, none)
set_option maxRecDepth 20000 in
theorem b_Trees_hang : kSt M_Trees_hang 0 0 0 0 s_Trees_hang :=
  (kSt_seq (kSt_seq (kSt_call (kEs_snoc (kEs_snoc (kEs_snoc (kEs_snoc (kEs_snoc (kEs_snoc kEs_nil (kE_aload_n dX8_hang_0)) (kE_iload_n dX8_hang_1)) (kE_iload_n dX8_hang_2)) (kE_iload_n dX8_hang_3)) (kE_iload dX8_hang_4)) (kE_iload dX8_hang_6)) dX8_hang_8 c_Trees_place mv_Trees_place lm_RX8_130 ⟨rfl, rfl, by decide, by decide⟩)
  (kSt_seq (kSt_iast (kE_get (kE_aload_n dX8_hang_11) lf_RX8_31 dX8_hang_12) (kE_iconst dX8_hang_15 ⟨by decide, by decide⟩) (kE_iload_n dX8_hang_16) dX8_hang_17)
  (kSt_seq (kSt_let (kE_iconst dX8_hang_18 ⟨by decide, by decide⟩) (kSet_istore dX8_hang_19 (by decide)))
  (kSt_trunc (kSt_seq (kSt_let (kE_iconst dX8_hang_21 ⟨by decide, by decide⟩) (kSet_istore dX8_hang_22 (by decide))) (kSt_for (pu := 156) (pt := 39) (kCd_and (kCd_C (kE_iload dX8_hang_24) (kE_sipush dX8_hang_26 (by rfl) ⟨by decide, by decide⟩) (kJf_2 (tgt := 162) dX8_hang_29 (by decide))) (kCd_C (kE_iload dX8_hang_32) (kE_iload dX8_hang_34) (kJf_2 (tgt := 162) dX8_hang_36 (by decide)))) (kSt_trunc (kSt_seq (kSt_let (kE_iald (kE_get (kE_aload_n dX8_hang_39) lf_RX8_31 dX8_hang_40) (kE_iload dX8_hang_43) dX8_hang_45) (kSet_istore dX8_hang_46 (by decide)))
  (kSt_seq (kSt_let (kE_call (kEs_snoc (kEs_snoc kEs_nil (kE_get (kE_aload_n dX8_hang_48) lf_RX8_37 dX8_hang_49)) (kE_iload dX8_hang_52)) dX8_hang_54 c_Web_degree mv_Web_degree lm_RX8_120 ⟨rfl, rfl, by decide, by decide⟩ (by decide)) (kSet_istore dX8_hang_57 (by decide)))
  (kSt_trunc (kSt_seq (kSt_let (kE_iconst dX8_hang_59 ⟨by decide, by decide⟩) (kSet_istore dX8_hang_60 (by decide))) (kSt_for (pu := 150) (pt := 69) (kCd_C (kE_iload dX8_hang_62) (kE_iload dX8_hang_64) (kJf_2 (tgt := 156) dX8_hang_66 (by decide))) (kSt_trunc (kSt_seq (kSt_let (kE_call (kEs_snoc (kEs_snoc (kEs_snoc kEs_nil (kE_get (kE_aload_n dX8_hang_69) lf_RX8_37 dX8_hang_70)) (kE_iload dX8_hang_73)) (kE_iload dX8_hang_75)) dX8_hang_77 c_Web_arcAt mv_Web_arcAt lm_RX8_124 ⟨rfl, rfl, by decide, by decide⟩ (by decide)) (kSet_istore dX8_hang_80 (by decide)))
  (kSt_seq (kSt_let (kE_call (kEs_snoc (kEs_snoc (kEs_snoc kEs_nil (kE_get (kE_aload_n dX8_hang_82) lf_RX8_37 dX8_hang_83)) (kE_iload dX8_hang_86)) (kE_iload dX8_hang_88)) dX8_hang_90 c_Web_other mv_Web_other lm_RX8_127 ⟨rfl, rfl, by decide, by decide⟩ (by decide)) (kSet_istore dX8_hang_93 (by decide)))
  (kSt_if (kCd_and (kCd_Z (kE_zald (kE_get (kE_aload_n dX8_hang_95) lf_RX8_15 dX8_hang_96) (kE_iload dX8_hang_99) dX8_hang_101) (kZf_1 (tgt := 150) dX8_hang_102 (by decide))) (kCd_C (kE_iald (kE_get (kE_aload_n dX8_hang_105) lf_RX8_19 dX8_hang_106) (kE_iload dX8_hang_109) dX8_hang_111) (kE_iload dX8_hang_112) (kJf_1 (tgt := 150) dX8_hang_114 (by decide)))) (kSt_seq (kSt_call (kEs_snoc (kEs_snoc (kEs_snoc (kEs_snoc (kEs_snoc (kEs_snoc kEs_nil (kE_aload_n dX8_hang_117)) (kE_iload dX8_hang_118)) (kE_iload dX8_hang_120)) (kE_iload dX8_hang_122)) (kE_iload dX8_hang_124)) (kE_bin (kE_iald (kE_get (kE_aload_n dX8_hang_126) lf_RX8_28 dX8_hang_127) (kE_iload dX8_hang_130) dX8_hang_132) (kE_iconst dX8_hang_133 ⟨by decide, by decide⟩) (kOp_add dX8_hang_134))) dX8_hang_135 c_Trees_place mv_Trees_place lm_RX8_130 ⟨rfl, rfl, by decide, by decide⟩)
  (kSt_seq (kSt_iast (kE_get (kE_aload_n dX8_hang_138) lf_RX8_31 dX8_hang_139) (kE_iload dX8_hang_142) (kE_iload dX8_hang_144) dX8_hang_146)
  (kSt_inc dX8_hang_147 (by decide)))) kSt_skip)))) (kSt_goto (tgt := 62) (kSt_inc dX8_hang_150 (by decide)) dX8_hang_153 (by decide)))))))) (kSt_goto (tgt := 24) (kSt_inc dX8_hang_156 (by decide)) dX8_hang_159 (by decide)))))))) (kSt_retV dX8_hang_162))
def F_Trees_hang : kFn := kF 6 kN s_Trees_hang
theorem c_Trees_hang : kCon yX8_hang cX8_hang 13 none { frames := 1, cells := 0, slots := 0, locals := 25 } F_Trees_hang := kCon_of kEnds_V (by decide +kernel) (by decide) ⟨0, 0, 0, b_Trees_hang⟩
def s_Trees_nodeAdded : kSx :=
  (sSeq (sCall 8 F_Trees_hang (eSnoc (eSnoc (eSnoc (eSnoc (eSnoc (eSnoc eNil (eR 0)) (eI 1)) (eK (-1))) (eK (-1))) (eI 1)) (eK (0)))) sRetV)
abbrev M_Trees_nodeAdded : kM := (cX8_nodeAdded, yX8_nodeAdded.cls, 2, { frames := 2, cells := 0, slots := 0, locals := 57 }, none)
set_option maxRecDepth 20000 in
theorem b_Trees_nodeAdded : kSt M_Trees_nodeAdded 0 0 0 0 s_Trees_nodeAdded :=
  (kSt_seq (kSt_call (kEs_snoc (kEs_snoc (kEs_snoc (kEs_snoc (kEs_snoc (kEs_snoc kEs_nil (kE_aload_n dX8_nodeAdded_0)) (kE_iload_n dX8_nodeAdded_1)) (kE_iconst dX8_nodeAdded_2 ⟨by decide, by decide⟩)) (kE_iconst dX8_nodeAdded_3 ⟨by decide, by decide⟩)) (kE_iload_n dX8_nodeAdded_4)) (kE_iconst dX8_nodeAdded_5 ⟨by decide, by decide⟩)) dX8_nodeAdded_6 c_Trees_hang mv_Trees_hang lm_RX8_63 ⟨rfl, rfl, by decide, by decide⟩) (kSt_retV dX8_nodeAdded_9))
def F_Trees_nodeAdded : kFn := kF 2 kN s_Trees_nodeAdded
theorem c_Trees_nodeAdded : kCon yX8_nodeAdded cX8_nodeAdded 2 none { frames := 2, cells := 0, slots := 0, locals := 57 } F_Trees_nodeAdded := kCon_of kEnds_V (by decide +kernel) (by decide) ⟨0, 0, 0, b_Trees_nodeAdded⟩
def s_Trees_arcAdded : kSx :=
  (sSeq (sSeq (sLet 0 2 (eAld 0 (eGet 10 0 (eGet 8 6 (eR 0))) (eI 1)))
  (sSeq (sLet 0 3 (eAld 0 (eGet 10 1 (eGet 8 6 (eR 0))) (eI 1)))
  (sSeq (sAst 0 (eGet 8 0 (eR 0)) (eI 1) (eK (0)))
  (sSeq (sAst 1 (eGet 8 1 (eR 0)) (eI 1) (eIf (cNot (cZ 1 (eCall 8 F_Trees_together (eSnoc (eSnoc (eSnoc eNil (eR 0)) (eI 2)) (eI 3))))) (eK (1)) (eK (0))))
  (sIf (cZ 1 (eAld 1 (eGet 8 1 (eR 0)) (eI 1))) (sTrunc 4 (sSeq (sLet 0 4 (eIf (cC 2 (eAld 0 (eGet 8 2 (eR 0)) (eI 2)) (eAld 0 (eGet 8 2 (eR 0)) (eI 3))) (eK (1)) (eK (0))))
  (sSeq (sLet 0 5 (eIf (cZ 1 (eI 4)) (eI 2) (eI 3)))
  (sCall 8 F_Trees_hang (eSnoc (eSnoc (eSnoc (eSnoc (eSnoc (eSnoc eNil (eR 0)) (eIf (cZ 1 (eI 4)) (eI 3) (eI 2))) (eI 5)) (eI 1)) (eAld 0 (eGet 8 2 (eR 0)) (eI 5))) (eBin kAdd (eAld 0 (eGet 8 5 (eR 0)) (eI 5)) (eK (1)))))))) sSkip))))) sRetV)
abbrev M_Trees_arcAdded : kM := (cX8_arcAdded, yX8_arcAdded.cls, 6, { frames := 2, cells := 0, slots := 0, locals := 57 }, none)
set_option maxRecDepth 20000 in
theorem b_Trees_arcAdded : kSt M_Trees_arcAdded 0 0 0 0 s_Trees_arcAdded :=
  (kSt_seq (kSt_seq (kSt_let (kE_iald (kE_get (kE_get (kE_aload_n dX8_arcAdded_0) lf_RX8_37 dX8_arcAdded_1) lf_RX8_67 dX8_arcAdded_4) (kE_iload_n dX8_arcAdded_7) dX8_arcAdded_8) (kSet_istore_n dX8_arcAdded_9 (by decide)))
  (kSt_seq (kSt_let (kE_iald (kE_get (kE_get (kE_aload_n dX8_arcAdded_10) lf_RX8_37 dX8_arcAdded_11) lf_RX8_70 dX8_arcAdded_14) (kE_iload_n dX8_arcAdded_17) dX8_arcAdded_18) (kSet_istore_n dX8_arcAdded_19 (by decide)))
  (kSt_seq (kSt_iast (kE_get (kE_aload_n dX8_arcAdded_20) lf_RX8_9 dX8_arcAdded_21) (kE_iload_n dX8_arcAdded_24) (kE_iconst dX8_arcAdded_25 ⟨by decide, by decide⟩) dX8_arcAdded_26)
  (kSt_seq (kSt_zast (kE_get (kE_aload_n dX8_arcAdded_27) lf_RX8_15 dX8_arcAdded_28) (kE_iload_n dX8_arcAdded_31) (kE_if (kCd_not (kCd_Z (kE_call (kEs_snoc (kEs_snoc (kEs_snoc kEs_nil (kE_aload_n dX8_arcAdded_32)) (kE_iload_n dX8_arcAdded_33)) (kE_iload_n dX8_arcAdded_34)) dX8_arcAdded_35 c_Trees_together mv_Trees_together lm_RX8_73 ⟨rfl, rfl, by decide, by decide⟩ (by decide)) (kZt_1 (tgt := 45) dX8_arcAdded_38 (by decide)))) (kE_goto (tgt := 46) (kE_iconst dX8_arcAdded_41 ⟨by decide, by decide⟩) dX8_arcAdded_42 (by decide)) (kE_iconst dX8_arcAdded_45 ⟨by decide, by decide⟩)) dX8_arcAdded_46)
  (kSt_if (kCd_Z (kE_zald (kE_get (kE_aload_n dX8_arcAdded_47) lf_RX8_15 dX8_arcAdded_48) (kE_iload_n dX8_arcAdded_51) dX8_arcAdded_52) (kZf_1 (tgt := 123) dX8_arcAdded_53 (by decide))) (kSt_trunc (kSt_seq (kSt_let (kE_if (kCd_C (kE_iald (kE_get (kE_aload_n dX8_arcAdded_56) lf_RX8_19 dX8_arcAdded_57) (kE_iload_n dX8_arcAdded_60) dX8_arcAdded_61) (kE_iald (kE_get (kE_aload_n dX8_arcAdded_62) lf_RX8_19 dX8_arcAdded_63) (kE_iload_n dX8_arcAdded_66) dX8_arcAdded_67) (kJf_2 (tgt := 75) dX8_arcAdded_68 (by decide))) (kE_goto (tgt := 76) (kE_iconst dX8_arcAdded_71 ⟨by decide, by decide⟩) dX8_arcAdded_72 (by decide)) (kE_iconst dX8_arcAdded_75 ⟨by decide, by decide⟩)) (kSet_istore dX8_arcAdded_76 (by decide)))
  (kSt_seq (kSt_let (kE_if (kCd_Z (kE_iload dX8_arcAdded_78) (kZf_1 (tgt := 87) dX8_arcAdded_80 (by decide))) (kE_goto (tgt := 88) (kE_iload_n dX8_arcAdded_83) dX8_arcAdded_84 (by decide)) (kE_iload_n dX8_arcAdded_87)) (kSet_istore dX8_arcAdded_88 (by decide)))
  (kSt_call (kEs_snoc (kEs_snoc (kEs_snoc (kEs_snoc (kEs_snoc (kEs_snoc kEs_nil (kE_aload_n dX8_arcAdded_90)) (kE_if (kCd_Z (kE_iload dX8_arcAdded_91) (kZf_1 (tgt := 100) dX8_arcAdded_93 (by decide))) (kE_goto (tgt := 101) (kE_iload_n dX8_arcAdded_96) dX8_arcAdded_97 (by decide)) (kE_iload_n dX8_arcAdded_100))) (kE_iload dX8_arcAdded_101)) (kE_iload_n dX8_arcAdded_103)) (kE_iald (kE_get (kE_aload_n dX8_arcAdded_104) lf_RX8_19 dX8_arcAdded_105) (kE_iload dX8_arcAdded_108) dX8_arcAdded_110)) (kE_bin (kE_iald (kE_get (kE_aload_n dX8_arcAdded_111) lf_RX8_28 dX8_arcAdded_112) (kE_iload dX8_arcAdded_115) dX8_arcAdded_117) (kE_iconst dX8_arcAdded_118 ⟨by decide, by decide⟩) (kOp_add dX8_arcAdded_119))) dX8_arcAdded_120 c_Trees_hang mv_Trees_hang lm_RX8_63 ⟨rfl, rfl, by decide, by decide⟩)))) kSt_skip))))) (kSt_retV dX8_arcAdded_123))
def F_Trees_arcAdded : kFn := kF 2 kN s_Trees_arcAdded
theorem c_Trees_arcAdded : kCon yX8_arcAdded cX8_arcAdded 6 none { frames := 2, cells := 0, slots := 0, locals := 57 } F_Trees_arcAdded := kCon_of kEnds_V (by decide +kernel) (by decide) ⟨0, 0, 0, b_Trees_arcAdded⟩
def l_Trees_gather_1 : kSx := sFor 9 (cC 2 (eI 8) (eI 7))
  (sTrunc 9 (sSeq (sLet 0 9 (eCall 10 F_Web_arcAt (eSnoc (eSnoc (eSnoc eNil (eGet 8 6 (eR 0))) (eI 6)) (eI 8))))
  (sSeq (sLet 0 10 (eCall 10 F_Web_other (eSnoc (eSnoc (eSnoc eNil (eGet 8 6 (eR 0))) (eI 9)) (eI 6))))
  (sIf (cAnd (cAnd (cZ 1 (eAld 1 (eGet 8 1 (eR 0)) (eI 9))) (cC 3 (eAld 0 (eGet 8 0 (eR 0)) (eI 9)) (eI 2))) (cC 1 (eAld 0 (eGet 8 8 (eR 0)) (eI 10)) (eI 3))) (sSeq (sAst 0 (eGet 8 8 (eR 0)) (eI 10) (eI 3))
  (sSeq (sAst 0 (eGet 8 7 (eR 0)) (eI 4) (eI 10))
  (sInc 4 (1)))) sSkip))))
  (sInc 8 (1))
def l_Trees_gather_2 : kSx := sFor 6 (cAnd (cC 2 (eI 5) (eK (300))) (cC 2 (eI 5) (eI 4)))
  (sTrunc 6 (sSeq (sLet 0 6 (eAld 0 (eGet 8 7 (eR 0)) (eI 5)))
  (sSeq (sLet 0 7 (eCall 10 F_Web_degree (eSnoc (eSnoc eNil (eGet 8 6 (eR 0))) (eI 6))))
  (sTrunc 8 (sSeq (sLet 0 8 (eK (0))) l_Trees_gather_1)))))
  (sInc 5 (1))
def s_Trees_gather : kSx :=
  (sSeq (sAst 0 (eGet 8 8 (eR 0)) (eI 1) (eI 3))
  (sSeq (sAst 0 (eGet 8 7 (eR 0)) (eK (0)) (eI 1))
  (sSeq (sLet 0 4 (eK (1)))
  (sSeq (sTrunc 5 (sSeq (sLet 0 5 (eK (0))) l_Trees_gather_2))
  (sRet 0 (eI 4))))))
abbrev M_Trees_gather : kM := (cX8_gather, yX8_gather.cls, 11, { frames := 1, cells := 0, slots := 0, locals := 23 }, (some .int))
set_option maxRecDepth 20000 in
theorem b_Trees_gather : kSt M_Trees_gather 0 0 0 0 s_Trees_gather :=
  (kSt_seq (kSt_iast (kE_get (kE_aload_n dX8_gather_0) lf_RX8_34 dX8_gather_1) (kE_iload_n dX8_gather_4) (kE_iload_n dX8_gather_5) dX8_gather_6)
  (kSt_seq (kSt_iast (kE_get (kE_aload_n dX8_gather_7) lf_RX8_31 dX8_gather_8) (kE_iconst dX8_gather_11 ⟨by decide, by decide⟩) (kE_iload_n dX8_gather_12) dX8_gather_13)
  (kSt_seq (kSt_let (kE_iconst dX8_gather_14 ⟨by decide, by decide⟩) (kSet_istore dX8_gather_15 (by decide)))
  (kSt_seq (kSt_trunc (kSt_seq (kSt_let (kE_iconst dX8_gather_17 ⟨by decide, by decide⟩) (kSet_istore dX8_gather_18 (by decide))) (kSt_for (pu := 149) (pt := 35) (kCd_and (kCd_C (kE_iload dX8_gather_20) (kE_sipush dX8_gather_22 (by rfl) ⟨by decide, by decide⟩) (kJf_2 (tgt := 155) dX8_gather_25 (by decide))) (kCd_C (kE_iload dX8_gather_28) (kE_iload dX8_gather_30) (kJf_2 (tgt := 155) dX8_gather_32 (by decide)))) (kSt_trunc (kSt_seq (kSt_let (kE_iald (kE_get (kE_aload_n dX8_gather_35) lf_RX8_31 dX8_gather_36) (kE_iload dX8_gather_39) dX8_gather_41) (kSet_istore dX8_gather_42 (by decide)))
  (kSt_seq (kSt_let (kE_call (kEs_snoc (kEs_snoc kEs_nil (kE_get (kE_aload_n dX8_gather_44) lf_RX8_37 dX8_gather_45)) (kE_iload dX8_gather_48)) dX8_gather_50 c_Web_degree mv_Web_degree lm_RX8_120 ⟨rfl, rfl, by decide, by decide⟩ (by decide)) (kSet_istore dX8_gather_53 (by decide)))
  (kSt_trunc (kSt_seq (kSt_let (kE_iconst dX8_gather_55 ⟨by decide, by decide⟩) (kSet_istore dX8_gather_56 (by decide))) (kSt_for (pu := 143) (pt := 65) (kCd_C (kE_iload dX8_gather_58) (kE_iload dX8_gather_60) (kJf_2 (tgt := 149) dX8_gather_62 (by decide))) (kSt_trunc (kSt_seq (kSt_let (kE_call (kEs_snoc (kEs_snoc (kEs_snoc kEs_nil (kE_get (kE_aload_n dX8_gather_65) lf_RX8_37 dX8_gather_66)) (kE_iload dX8_gather_69)) (kE_iload dX8_gather_71)) dX8_gather_73 c_Web_arcAt mv_Web_arcAt lm_RX8_124 ⟨rfl, rfl, by decide, by decide⟩ (by decide)) (kSet_istore dX8_gather_76 (by decide)))
  (kSt_seq (kSt_let (kE_call (kEs_snoc (kEs_snoc (kEs_snoc kEs_nil (kE_get (kE_aload_n dX8_gather_78) lf_RX8_37 dX8_gather_79)) (kE_iload dX8_gather_82)) (kE_iload dX8_gather_84)) dX8_gather_86 c_Web_other mv_Web_other lm_RX8_127 ⟨rfl, rfl, by decide, by decide⟩ (by decide)) (kSet_istore dX8_gather_89 (by decide)))
  (kSt_if (kCd_and (kCd_and (kCd_Z (kE_zald (kE_get (kE_aload_n dX8_gather_91) lf_RX8_15 dX8_gather_92) (kE_iload dX8_gather_95) dX8_gather_97) (kZf_1 (tgt := 143) dX8_gather_98 (by decide))) (kCd_C (kE_iald (kE_get (kE_aload_n dX8_gather_101) lf_RX8_9 dX8_gather_102) (kE_iload dX8_gather_105) dX8_gather_107) (kE_iload_n dX8_gather_108) (kJf_3 (tgt := 143) dX8_gather_109 (by decide)))) (kCd_C (kE_iald (kE_get (kE_aload_n dX8_gather_112) lf_RX8_34 dX8_gather_113) (kE_iload dX8_gather_116) dX8_gather_118) (kE_iload_n dX8_gather_119) (kJf_1 (tgt := 143) dX8_gather_120 (by decide)))) (kSt_seq (kSt_iast (kE_get (kE_aload_n dX8_gather_123) lf_RX8_34 dX8_gather_124) (kE_iload dX8_gather_127) (kE_iload_n dX8_gather_129) dX8_gather_130)
  (kSt_seq (kSt_iast (kE_get (kE_aload_n dX8_gather_131) lf_RX8_31 dX8_gather_132) (kE_iload dX8_gather_135) (kE_iload dX8_gather_137) dX8_gather_139)
  (kSt_inc dX8_gather_140 (by decide)))) kSt_skip)))) (kSt_goto (tgt := 58) (kSt_inc dX8_gather_143 (by decide)) dX8_gather_146 (by decide)))))))) (kSt_goto (tgt := 20) (kSt_inc dX8_gather_149 (by decide)) dX8_gather_152 (by decide)))))
  (kSt_ret (tag := 0) (kE_iload dX8_gather_155) ⟨fun _ => dX8_gather_157, fun q => (by cases q), fun q => (by cases q)⟩)))))
def F_Trees_gather : kFn := kF 4 kI s_Trees_gather
theorem c_Trees_gather : kCon yX8_gather cX8_gather 11 (some .int) { frames := 1, cells := 0, slots := 0, locals := 23 } F_Trees_gather := kCon_of kEnds_I (by decide +kernel) (by decide) ⟨0, 0, 0, b_Trees_gather⟩
def l_Trees_raiseTree_1 : kSx := sFor 4 (cC 2 (eI 3) (eGet 10 4 (eGet 8 6 (eR 0))))
  (sTrunc 4 (sSeq (sLet 0 4 (eAld 0 (eGet 10 2 (eGet 8 6 (eR 0))) (eI 3)))
  (sIf (cAnd (cAnd (cAnd (cZ 1 (eAld 1 (eGet 8 1 (eR 0)) (eI 4))) (cC 0 (eAld 0 (eGet 8 0 (eR 0)) (eI 4)) (eI 1))) (cC 0 (eAld 0 (eGet 8 8 (eR 0)) (eAld 0 (eGet 10 0 (eGet 8 6 (eR 0))) (eI 4))) (eI 2))) (cC 0 (eAld 0 (eGet 8 8 (eR 0)) (eAld 0 (eGet 10 1 (eGet 8 6 (eR 0))) (eI 4))) (eI 2))) (sAstOp (eGet 8 0 (eR 0)) (eI 4) kAdd (eK (1))) sSkip)))
  (sInc 3 (1))
def s_Trees_raiseTree : kSx :=
  (sSeq (sTrunc 3 (sSeq (sLet 0 3 (eK (0))) l_Trees_raiseTree_1)) sRetV)
abbrev M_Trees_raiseTree : kM := (cX8_raiseTree, yX8_raiseTree.cls, 5, { frames := 0, cells := 0, slots := 0, locals := 0 }, none)
set_option maxRecDepth 20000 in
theorem b_Trees_raiseTree : kSt M_Trees_raiseTree 0 0 0 0 s_Trees_raiseTree :=
  (kSt_seq (kSt_trunc (kSt_seq (kSt_let (kE_iconst dX8_raiseTree_0 ⟨by decide, by decide⟩) (kSet_istore_n dX8_raiseTree_1 (by decide))) (kSt_for (pu := 94) (pt := 13) (kCd_C (kE_iload_n dX8_raiseTree_2) (kE_get (kE_get (kE_aload_n dX8_raiseTree_3) lf_RX8_37 dX8_raiseTree_4) lf_RX8_51 dX8_raiseTree_7) (kJf_2 (tgt := 100) dX8_raiseTree_10 (by decide))) (kSt_trunc (kSt_seq (kSt_let (kE_iald (kE_get (kE_get (kE_aload_n dX8_raiseTree_13) lf_RX8_37 dX8_raiseTree_14) lf_RX8_54 dX8_raiseTree_17) (kE_iload_n dX8_raiseTree_20) dX8_raiseTree_21) (kSet_istore dX8_raiseTree_22 (by decide)))
  (kSt_if (kCd_and (kCd_and (kCd_and (kCd_Z (kE_zald (kE_get (kE_aload_n dX8_raiseTree_24) lf_RX8_15 dX8_raiseTree_25) (kE_iload dX8_raiseTree_28) dX8_raiseTree_30) (kZf_1 (tgt := 94) dX8_raiseTree_31 (by decide))) (kCd_C (kE_iald (kE_get (kE_aload_n dX8_raiseTree_34) lf_RX8_9 dX8_raiseTree_35) (kE_iload dX8_raiseTree_38) dX8_raiseTree_40) (kE_iload_n dX8_raiseTree_41) (kJf_0 (tgt := 94) dX8_raiseTree_42 (by decide)))) (kCd_C (kE_iald (kE_get (kE_aload_n dX8_raiseTree_45) lf_RX8_34 dX8_raiseTree_46) (kE_iald (kE_get (kE_get (kE_aload_n dX8_raiseTree_49) lf_RX8_37 dX8_raiseTree_50) lf_RX8_67 dX8_raiseTree_53) (kE_iload dX8_raiseTree_56) dX8_raiseTree_58) dX8_raiseTree_59) (kE_iload_n dX8_raiseTree_60) (kJf_0 (tgt := 94) dX8_raiseTree_61 (by decide)))) (kCd_C (kE_iald (kE_get (kE_aload_n dX8_raiseTree_64) lf_RX8_34 dX8_raiseTree_65) (kE_iald (kE_get (kE_get (kE_aload_n dX8_raiseTree_68) lf_RX8_37 dX8_raiseTree_69) lf_RX8_70 dX8_raiseTree_72) (kE_iload dX8_raiseTree_75) dX8_raiseTree_77) dX8_raiseTree_78) (kE_iload_n dX8_raiseTree_79) (kJf_0 (tgt := 94) dX8_raiseTree_80 (by decide)))) (kSt_iastOp (kE_get (kE_aload_n dX8_raiseTree_83) lf_RX8_9 dX8_raiseTree_84) (kE_iload dX8_raiseTree_87) dX8_raiseTree_89 dX8_raiseTree_90 (kE_iconst dX8_raiseTree_91 ⟨by decide, by decide⟩) (kOp_add dX8_raiseTree_92) dX8_raiseTree_93) kSt_skip))) (kSt_goto (tgt := 2) (kSt_inc dX8_raiseTree_94 (by decide)) dX8_raiseTree_97 (by decide))))) (kSt_retV dX8_raiseTree_100))
def F_Trees_raiseTree : kFn := kF 3 kN s_Trees_raiseTree
theorem c_Trees_raiseTree : kCon yX8_raiseTree cX8_raiseTree 5 none { frames := 0, cells := 0, slots := 0, locals := 0 } F_Trees_raiseTree := kCon_of kEnds_V (by decide +kernel) (by decide) ⟨0, 0, 0, b_Trees_raiseTree⟩
def l_Trees_replace_1 : kSx := sFor 5 (cC 2 (eI 4) (eGet 10 4 (eGet 8 6 (eR 0))))
  (sTrunc 5 (sSeq (sLet 0 5 (eAld 0 (eGet 10 2 (eGet 8 6 (eR 0))) (eI 4)))
  (sSeq (sLet 0 6 (eAld 0 (eGet 8 8 (eR 0)) (eAld 0 (eGet 10 0 (eGet 8 6 (eR 0))) (eI 5))))
  (sSeq (sLet 0 7 (eAld 0 (eGet 8 8 (eR 0)) (eAld 0 (eGet 10 1 (eGet 8 6 (eR 0))) (eI 5))))
  (sIf (cAnd (cAnd (cNot (cZ 1 (eAld 1 (eGet 8 1 (eR 0)) (eI 5)))) (cC 0 (eAld 0 (eGet 8 0 (eR 0)) (eI 5)) (eI 1))) (cOr (cC 0 (eI 6) (eI 2)) (cC 0 (eI 7) (eI 2)))) (sSeq (sIf (cC 0 (eBin kAdd (eI 6) (eI 7)) (eI 3)) (sSeq (sAst 1 (eGet 8 1 (eR 0)) (eI 5) (eK (1)))
  (sRet 0 (eK (1)))) sSkip)
  (sAstOp (eGet 8 0 (eR 0)) (eI 5) kAdd (eK (1)))) sSkip)))))
  (sInc 4 (1))
def s_Trees_replace : kSx :=
  (sSeq (sLet 0 3 (eK (3)))
  (sSeq (sTrunc 4 (sSeq (sLet 0 4 (eK (0))) l_Trees_replace_1))
  (sRet 0 (eK (0)))))
abbrev M_Trees_replace : kM := (cX8_replace, yX8_replace.cls, 8, { frames := 0, cells := 0, slots := 0, locals := 0 }, (some .boolean))
set_option maxRecDepth 20000 in
theorem b_Trees_replace : kSt M_Trees_replace 0 0 0 0 s_Trees_replace :=
  (kSt_seq (kSt_let (kE_iconst dX8_replace_0 ⟨by decide, by decide⟩) (kSet_istore_n dX8_replace_1 (by decide)))
  (kSt_seq (kSt_trunc (kSt_seq (kSt_let (kE_iconst dX8_replace_2 ⟨by decide, by decide⟩) (kSet_istore dX8_replace_3 (by decide))) (kSt_for (pu := 126) (pt := 17) (kCd_C (kE_iload dX8_replace_5) (kE_get (kE_get (kE_aload_n dX8_replace_7) lf_RX8_37 dX8_replace_8) lf_RX8_51 dX8_replace_11) (kJf_2 (tgt := 132) dX8_replace_14 (by decide))) (kSt_trunc (kSt_seq (kSt_let (kE_iald (kE_get (kE_get (kE_aload_n dX8_replace_17) lf_RX8_37 dX8_replace_18) lf_RX8_54 dX8_replace_21) (kE_iload dX8_replace_24) dX8_replace_26) (kSet_istore dX8_replace_27 (by decide)))
  (kSt_seq (kSt_let (kE_iald (kE_get (kE_aload_n dX8_replace_29) lf_RX8_34 dX8_replace_30) (kE_iald (kE_get (kE_get (kE_aload_n dX8_replace_33) lf_RX8_37 dX8_replace_34) lf_RX8_67 dX8_replace_37) (kE_iload dX8_replace_40) dX8_replace_42) dX8_replace_43) (kSet_istore dX8_replace_44 (by decide)))
  (kSt_seq (kSt_let (kE_iald (kE_get (kE_aload_n dX8_replace_46) lf_RX8_34 dX8_replace_47) (kE_iald (kE_get (kE_get (kE_aload_n dX8_replace_50) lf_RX8_37 dX8_replace_51) lf_RX8_70 dX8_replace_54) (kE_iload dX8_replace_57) dX8_replace_59) dX8_replace_60) (kSet_istore dX8_replace_61 (by decide)))
  (kSt_if (kCd_and (kCd_and (kCd_not (kCd_Z (kE_zald (kE_get (kE_aload_n dX8_replace_63) lf_RX8_15 dX8_replace_64) (kE_iload dX8_replace_67) dX8_replace_69) (kZt_1 (tgt := 126) dX8_replace_70 (by decide)))) (kCd_C (kE_iald (kE_get (kE_aload_n dX8_replace_73) lf_RX8_9 dX8_replace_74) (kE_iload dX8_replace_77) dX8_replace_79) (kE_iload_n dX8_replace_80) (kJf_0 (tgt := 126) dX8_replace_81 (by decide)))) (kCd_or (kCd_C (kE_iload dX8_replace_84) (kE_iload_n dX8_replace_86) (kJt_0 (tgt := 96) dX8_replace_87 (by decide))) (kCd_C (kE_iload dX8_replace_90) (kE_iload_n dX8_replace_92) (kJf_0 (tgt := 126) dX8_replace_93 (by decide))))) (kSt_seq (kSt_if (kCd_C (kE_bin (kE_iload dX8_replace_96) (kE_iload dX8_replace_98) (kOp_add dX8_replace_100)) (kE_iload_n dX8_replace_101) (kJf_0 (tgt := 115) dX8_replace_102 (by decide))) (kSt_seq (kSt_zast (kE_get (kE_aload_n dX8_replace_105) lf_RX8_15 dX8_replace_106) (kE_iload dX8_replace_109) (kE_iconst dX8_replace_111 ⟨by decide, by decide⟩) dX8_replace_112)
  (kSt_ret (tag := 0) (kE_iconst dX8_replace_113 ⟨by decide, by decide⟩) ⟨fun _ => dX8_replace_114, fun q => (by cases q), fun q => (by cases q)⟩)) kSt_skip)
  (kSt_iastOp (kE_get (kE_aload_n dX8_replace_115) lf_RX8_9 dX8_replace_116) (kE_iload dX8_replace_119) dX8_replace_121 dX8_replace_122 (kE_iconst dX8_replace_123 ⟨by decide, by decide⟩) (kOp_add dX8_replace_124) dX8_replace_125)) kSt_skip))))) (kSt_goto (tgt := 5) (kSt_inc dX8_replace_126 (by decide)) dX8_replace_129 (by decide)))))
  (kSt_ret (tag := 0) (kE_iconst dX8_replace_132 ⟨by decide, by decide⟩) ⟨fun _ => dX8_replace_133, fun q => (by cases q), fun q => (by cases q)⟩)))
def F_Trees_replace : kFn := kF 3 kZ s_Trees_replace
theorem c_Trees_replace : kCon yX8_replace cX8_replace 8 (some .boolean) { frames := 0, cells := 0, slots := 0, locals := 0 } F_Trees_replace := kCon_of kEnds_Z (by decide +kernel) (by decide) ⟨0, 0, 0, b_Trees_replace⟩
def l_Trees_mend_1 : kSx := sFor 4 (cAnd (cZ 3 (eI 3)) (cNot (cZ 1 (eI 2))))
  (sTrunc 4 (sSeq (sCallS F_Ar_fill (eSnoc (eSnoc eNil (eGet 8 8 (eR 0))) (eK (0))))
  (sSeq (sLet 0 4 (eCall 8 F_Trees_gather (eSnoc (eSnoc (eSnoc (eSnoc eNil (eR 0)) (eAld 0 (eGet 10 0 (eGet 8 6 (eR 0))) (eI 1))) (eI 3)) (eK (1)))))
  (sSeq (sLet 0 5 (eCall 8 F_Trees_gather (eSnoc (eSnoc (eSnoc (eSnoc eNil (eR 0)) (eAld 0 (eGet 10 1 (eGet 8 6 (eR 0))) (eI 1))) (eI 3)) (eK (2)))))
  (sSeq (sLet 0 6 (eIf (cC 5 (eI 4) (eI 5)) (eK (1)) (eK (2))))
  (sSeq (sCall 8 F_Trees_raiseTree (eSnoc (eSnoc (eSnoc eNil (eR 0)) (eI 3)) (eI 6)))
  (sLet 0 2 (eCall 8 F_Trees_replace (eSnoc (eSnoc (eSnoc eNil (eR 0)) (eI 3)) (eI 6))))))))))
  (sInc 3 (-1))
def s_Trees_mend : kSx :=
  (sSeq (sSeq (sLet 0 2 (eK (0)))
  (sTrunc 3 (sSeq (sLet 0 3 (eAld 0 (eGet 8 0 (eR 0)) (eI 1))) l_Trees_mend_1))) sRetV)
abbrev M_Trees_mend : kM := (cX8_mend, yX8_mend.cls, 7, { frames := 2, cells := 0, slots := 0, locals := 53 }, none)
set_option maxRecDepth 20000 in
theorem b_Trees_mend : kSt M_Trees_mend 0 0 0 0 s_Trees_mend :=
  (kSt_seq (kSt_seq (kSt_let (kE_iconst dX8_mend_0 ⟨by decide, by decide⟩) (kSet_istore_n dX8_mend_1 (by decide)))
  (kSt_trunc (kSt_seq (kSt_let (kE_iald (kE_get (kE_aload_n dX8_mend_2) lf_RX8_9 dX8_mend_3) (kE_iload_n dX8_mend_6) dX8_mend_7) (kSet_istore_n dX8_mend_8 (by decide))) (kSt_for (pu := 88) (pt := 17) (kCd_and (kCd_Z (kE_iload_n dX8_mend_9) (kZf_3 (tgt := 94) dX8_mend_10 (by decide))) (kCd_not (kCd_Z (kE_iload_n dX8_mend_13) (kZt_1 (tgt := 94) dX8_mend_14 (by decide))))) (kSt_trunc (kSt_seq (kSt_callS (kEs_snoc (kEs_snoc kEs_nil (kE_get (kE_aload_n dX8_mend_17) lf_RX8_34 dX8_mend_18)) (kE_iconst dX8_mend_21 ⟨by decide, by decide⟩)) dX8_mend_22 c_Ar_fill mv_Ar_fill lm_RX8_84 ⟨rfl, rfl, by decide, by decide⟩)
  (kSt_seq (kSt_let (kE_call (kEs_snoc (kEs_snoc (kEs_snoc (kEs_snoc kEs_nil (kE_aload_n dX8_mend_25)) (kE_iald (kE_get (kE_get (kE_aload_n dX8_mend_26) lf_RX8_37 dX8_mend_27) lf_RX8_67 dX8_mend_30) (kE_iload_n dX8_mend_33) dX8_mend_34)) (kE_iload_n dX8_mend_35)) (kE_iconst dX8_mend_36 ⟨by decide, by decide⟩)) dX8_mend_37 c_Trees_gather mv_Trees_gather lm_RX8_90 ⟨rfl, rfl, by decide, by decide⟩ (by decide)) (kSet_istore dX8_mend_40 (by decide)))
  (kSt_seq (kSt_let (kE_call (kEs_snoc (kEs_snoc (kEs_snoc (kEs_snoc kEs_nil (kE_aload_n dX8_mend_42)) (kE_iald (kE_get (kE_get (kE_aload_n dX8_mend_43) lf_RX8_37 dX8_mend_44) lf_RX8_70 dX8_mend_47) (kE_iload_n dX8_mend_50) dX8_mend_51)) (kE_iload_n dX8_mend_52)) (kE_iconst dX8_mend_53 ⟨by decide, by decide⟩)) dX8_mend_54 c_Trees_gather mv_Trees_gather lm_RX8_90 ⟨rfl, rfl, by decide, by decide⟩ (by decide)) (kSet_istore dX8_mend_57 (by decide)))
  (kSt_seq (kSt_let (kE_if (kCd_C (kE_iload dX8_mend_59) (kE_iload dX8_mend_61) (kJf_5 (tgt := 70) dX8_mend_63 (by decide))) (kE_goto (tgt := 71) (kE_iconst dX8_mend_66 ⟨by decide, by decide⟩) dX8_mend_67 (by decide)) (kE_iconst dX8_mend_70 ⟨by decide, by decide⟩)) (kSet_istore dX8_mend_71 (by decide)))
  (kSt_seq (kSt_call (kEs_snoc (kEs_snoc (kEs_snoc kEs_nil (kE_aload_n dX8_mend_73)) (kE_iload_n dX8_mend_74)) (kE_iload dX8_mend_75)) dX8_mend_77 c_Trees_raiseTree mv_Trees_raiseTree lm_RX8_94 ⟨rfl, rfl, by decide, by decide⟩)
  (kSt_let (kE_call (kEs_snoc (kEs_snoc (kEs_snoc kEs_nil (kE_aload_n dX8_mend_80)) (kE_iload_n dX8_mend_81)) (kE_iload dX8_mend_82)) dX8_mend_84 c_Trees_replace mv_Trees_replace lm_RX8_98 ⟨rfl, rfl, by decide, by decide⟩ (by decide)) (kSet_istore_n dX8_mend_87 (by decide))))))))) (kSt_goto (tgt := 9) (kSt_inc dX8_mend_88 (by decide)) dX8_mend_91 (by decide)))))) (kSt_retV dX8_mend_94))
def F_Trees_mend : kFn := kF 2 kN s_Trees_mend
theorem c_Trees_mend : kCon yX8_mend cX8_mend 7 none { frames := 2, cells := 0, slots := 0, locals := 53 } F_Trees_mend := kCon_of kEnds_V (by decide +kernel) (by decide) ⟨0, 0, 0, b_Trees_mend⟩
def l_Trees_hangAll_1 : kSx := sFor 2 (cC 2 (eI 1) (eGet 10 3 (eGet 8 6 (eR 0))))
  (sIf (cC 0 (eAld 0 (eGet 8 2 (eR 0)) (eI 1)) (eK (-1))) (sCall 8 F_Trees_hang (eSnoc (eSnoc (eSnoc (eSnoc (eSnoc (eSnoc eNil (eR 0)) (eI 1)) (eK (-1))) (eK (-1))) (eI 1)) (eK (0)))) sSkip)
  (sInc 1 (1))
def s_Trees_hangAll : kSx :=
  (sSeq (sSeq (sCallS F_Ar_fill (eSnoc (eSnoc eNil (eGet 8 2 (eR 0))) (eK (-1))))
  (sTrunc 1 (sSeq (sLet 0 1 (eK (0))) l_Trees_hangAll_1))) sRetV)
abbrev M_Trees_hangAll : kM := (cX8_hangAll, yX8_hangAll.cls, 2, { frames := 2, cells := 0, slots := 0, locals := 57 }, none)
set_option maxRecDepth 20000 in
theorem b_Trees_hangAll : kSt M_Trees_hangAll 0 0 0 0 s_Trees_hangAll :=
  (kSt_seq (kSt_seq (kSt_callS (kEs_snoc (kEs_snoc kEs_nil (kE_get (kE_aload_n dX8_hangAll_0) lf_RX8_19 dX8_hangAll_1)) (kE_iconst dX8_hangAll_4 ⟨by decide, by decide⟩)) dX8_hangAll_5 c_Ar_fill mv_Ar_fill lm_RX8_84 ⟨rfl, rfl, by decide, by decide⟩)
  (kSt_trunc (kSt_seq (kSt_let (kE_iconst dX8_hangAll_8 ⟨by decide, by decide⟩) (kSet_istore_n dX8_hangAll_9 (by decide))) (kSt_for (pu := 40) (pt := 21) (kCd_C (kE_iload_n dX8_hangAll_10) (kE_get (kE_get (kE_aload_n dX8_hangAll_11) lf_RX8_37 dX8_hangAll_12) lf_RX8_41 dX8_hangAll_15) (kJf_2 (tgt := 46) dX8_hangAll_18 (by decide))) (kSt_if (kCd_C (kE_iald (kE_get (kE_aload_n dX8_hangAll_21) lf_RX8_19 dX8_hangAll_22) (kE_iload_n dX8_hangAll_25) dX8_hangAll_26) (kE_iconst dX8_hangAll_27 ⟨by decide, by decide⟩) (kJf_0 (tgt := 40) dX8_hangAll_28 (by decide))) (kSt_call (kEs_snoc (kEs_snoc (kEs_snoc (kEs_snoc (kEs_snoc (kEs_snoc kEs_nil (kE_aload_n dX8_hangAll_31)) (kE_iload_n dX8_hangAll_32)) (kE_iconst dX8_hangAll_33 ⟨by decide, by decide⟩)) (kE_iconst dX8_hangAll_34 ⟨by decide, by decide⟩)) (kE_iload_n dX8_hangAll_35)) (kE_iconst dX8_hangAll_36 ⟨by decide, by decide⟩)) dX8_hangAll_37 c_Trees_hang mv_Trees_hang lm_RX8_63 ⟨rfl, rfl, by decide, by decide⟩) kSt_skip) (kSt_goto (tgt := 10) (kSt_inc dX8_hangAll_40 (by decide)) dX8_hangAll_43 (by decide)))))) (kSt_retV dX8_hangAll_46))
def F_Trees_hangAll : kFn := kF 1 kN s_Trees_hangAll
theorem c_Trees_hangAll : kCon yX8_hangAll cX8_hangAll 2 none { frames := 2, cells := 0, slots := 0, locals := 57 } F_Trees_hangAll := kCon_of kEnds_V (by decide +kernel) (by decide) ⟨0, 0, 0, b_Trees_hangAll⟩
def s_Trees_arcRemoved : kSx :=
  (sSeq (sIf (cZ 1 (eAld 1 (eGet 8 1 (eR 0)) (eI 1))) (sSeq (sCall 8 F_Trees_mend (eSnoc (eSnoc eNil (eR 0)) (eI 1)))
  (sCall 8 F_Trees_hangAll (eSnoc eNil (eR 0)))) sSkip) sRetV)
abbrev M_Trees_arcRemoved : kM := (cX8_arcRemoved, yX8_arcRemoved.cls, 2, { frames := 3, cells := 0, slots := 0, locals := 79 }, none)
set_option maxRecDepth 20000 in
theorem b_Trees_arcRemoved : kSt M_Trees_arcRemoved 0 0 0 0 s_Trees_arcRemoved :=
  (kSt_seq (kSt_if (kCd_Z (kE_zald (kE_get (kE_aload_n dX8_arcRemoved_0) lf_RX8_15 dX8_arcRemoved_1) (kE_iload_n dX8_arcRemoved_4) dX8_arcRemoved_5) (kZf_1 (tgt := 18) dX8_arcRemoved_6 (by decide))) (kSt_seq (kSt_call (kEs_snoc (kEs_snoc kEs_nil (kE_aload_n dX8_arcRemoved_9)) (kE_iload_n dX8_arcRemoved_10)) dX8_arcRemoved_11 c_Trees_mend mv_Trees_mend lm_RX8_77 ⟨rfl, rfl, by decide, by decide⟩)
  (kSt_call (kEs_snoc kEs_nil (kE_aload_n dX8_arcRemoved_14)) dX8_arcRemoved_15 c_Trees_hangAll mv_Trees_hangAll lm_RX8_81 ⟨rfl, rfl, by decide, by decide⟩)) kSt_skip) (kSt_retV dX8_arcRemoved_18))
def F_Trees_arcRemoved : kFn := kF 2 kN s_Trees_arcRemoved
theorem c_Trees_arcRemoved : kCon yX8_arcRemoved cX8_arcRemoved 2 none { frames := 3, cells := 0, slots := 0, locals := 79 } F_Trees_arcRemoved := kCon_of kEnds_V (by decide +kernel) (by decide) ⟨0, 0, 0, b_Trees_arcRemoved⟩
def l_Trees_spanJust_1 : kSx := sFor 3 (cC 2 (eI 2) (eGet 10 4 (eGet 8 6 (eR 0))))
  (sTrunc 3 (sSeq (sLet 0 3 (eAld 0 (eGet 10 2 (eGet 8 6 (eR 0))) (eI 2)))
  (sIf (cAnd (cZ 1 (eAld 1 (eGet 8 1 (eR 0)) (eI 3))) (cNot (cZ 1 (eCall 2 F_Joiner_join (eSnoc (eSnoc (eSnoc eNil (eR 1)) (eAld 0 (eGet 10 0 (eGet 8 6 (eR 0))) (eI 3))) (eAld 0 (eGet 10 1 (eGet 8 6 (eR 0))) (eI 3))))))) (sRet 0 (eK (0))) sSkip)))
  (sInc 2 (1))
def l_Trees_spanJust_2 : kSx := sFor 3 (cC 2 (eI 2) (eGet 10 4 (eGet 8 6 (eR 0))))
  (sTrunc 3 (sSeq (sLet 0 3 (eAld 0 (eGet 10 2 (eGet 8 6 (eR 0))) (eI 2)))
  (sIf (cNot (cZ 1 (eCall 2 F_Joiner_together (eSnoc (eSnoc (eSnoc eNil (eR 1)) (eAld 0 (eGet 10 0 (eGet 8 6 (eR 0))) (eI 3))) (eAld 0 (eGet 10 1 (eGet 8 6 (eR 0))) (eI 3)))))) (sRet 0 (eK (0))) sSkip)))
  (sInc 2 (1))
def s_Trees_spanJust : kSx :=
  (sSeq (sCall 2 F_Joiner_begin (eSnoc (eSnoc eNil (eR 1)) (eGet 10 3 (eGet 8 6 (eR 0)))))
  (sSeq (sTrunc 2 (sSeq (sLet 0 2 (eK (0))) l_Trees_spanJust_1))
  (sSeq (sTrunc 2 (sSeq (sLet 0 2 (eK (0))) l_Trees_spanJust_2))
  (sRet 0 (eK (1))))))
abbrev M_Trees_spanJust : kM := (cX8_spanJust, yX8_spanJust.cls, 4, { frames := 3, cells := 0, slots := 0, locals := 70 }, (some .boolean))
set_option maxRecDepth 20000 in
theorem b_Trees_spanJust : kSt M_Trees_spanJust 0 0 0 0 s_Trees_spanJust :=
  (kSt_seq (kSt_call (kEs_snoc (kEs_snoc kEs_nil (kE_aload_n dX8_spanJust_0)) (kE_get (kE_get (kE_aload_n dX8_spanJust_1) lf_RX8_37 dX8_spanJust_2) lf_RX8_41 dX8_spanJust_5)) dX8_spanJust_8 c_Joiner_begin mv_Joiner_begin lm_RX8_101 ⟨rfl, rfl, by decide, by decide⟩)
  (kSt_seq (kSt_trunc (kSt_seq (kSt_let (kE_iconst dX8_spanJust_11 ⟨by decide, by decide⟩) (kSet_istore_n dX8_spanJust_12 (by decide))) (kSt_for (pu := 70) (pt := 24) (kCd_C (kE_iload_n dX8_spanJust_13) (kE_get (kE_get (kE_aload_n dX8_spanJust_14) lf_RX8_37 dX8_spanJust_15) lf_RX8_51 dX8_spanJust_18) (kJf_2 (tgt := 76) dX8_spanJust_21 (by decide))) (kSt_trunc (kSt_seq (kSt_let (kE_iald (kE_get (kE_get (kE_aload_n dX8_spanJust_24) lf_RX8_37 dX8_spanJust_25) lf_RX8_54 dX8_spanJust_28) (kE_iload_n dX8_spanJust_31) dX8_spanJust_32) (kSet_istore_n dX8_spanJust_33 (by decide)))
  (kSt_if (kCd_and (kCd_Z (kE_zald (kE_get (kE_aload_n dX8_spanJust_34) lf_RX8_15 dX8_spanJust_35) (kE_iload_n dX8_spanJust_38) dX8_spanJust_39) (kZf_1 (tgt := 70) dX8_spanJust_40 (by decide))) (kCd_not (kCd_Z (kE_call (kEs_snoc (kEs_snoc (kEs_snoc kEs_nil (kE_aload_n dX8_spanJust_43)) (kE_iald (kE_get (kE_get (kE_aload_n dX8_spanJust_44) lf_RX8_37 dX8_spanJust_45) lf_RX8_67 dX8_spanJust_48) (kE_iload_n dX8_spanJust_51) dX8_spanJust_52)) (kE_iald (kE_get (kE_get (kE_aload_n dX8_spanJust_53) lf_RX8_37 dX8_spanJust_54) lf_RX8_70 dX8_spanJust_57) (kE_iload_n dX8_spanJust_60) dX8_spanJust_61)) dX8_spanJust_62 c_Joiner_join mv_Joiner_join lm_RX8_106 ⟨rfl, rfl, by decide, by decide⟩ (by decide)) (kZt_1 (tgt := 70) dX8_spanJust_65 (by decide))))) (kSt_ret (tag := 0) (kE_iconst dX8_spanJust_68 ⟨by decide, by decide⟩) ⟨fun _ => dX8_spanJust_69, fun q => (by cases q), fun q => (by cases q)⟩) kSt_skip))) (kSt_goto (tgt := 13) (kSt_inc dX8_spanJust_70 (by decide)) dX8_spanJust_73 (by decide)))))
  (kSt_seq (kSt_trunc (kSt_seq (kSt_let (kE_iconst dX8_spanJust_76 ⟨by decide, by decide⟩) (kSet_istore_n dX8_spanJust_77 (by decide))) (kSt_for (pu := 126) (pt := 89) (kCd_C (kE_iload_n dX8_spanJust_78) (kE_get (kE_get (kE_aload_n dX8_spanJust_79) lf_RX8_37 dX8_spanJust_80) lf_RX8_51 dX8_spanJust_83) (kJf_2 (tgt := 132) dX8_spanJust_86 (by decide))) (kSt_trunc (kSt_seq (kSt_let (kE_iald (kE_get (kE_get (kE_aload_n dX8_spanJust_89) lf_RX8_37 dX8_spanJust_90) lf_RX8_54 dX8_spanJust_93) (kE_iload_n dX8_spanJust_96) dX8_spanJust_97) (kSet_istore_n dX8_spanJust_98 (by decide)))
  (kSt_if (kCd_not (kCd_Z (kE_call (kEs_snoc (kEs_snoc (kEs_snoc kEs_nil (kE_aload_n dX8_spanJust_99)) (kE_iald (kE_get (kE_get (kE_aload_n dX8_spanJust_100) lf_RX8_37 dX8_spanJust_101) lf_RX8_67 dX8_spanJust_104) (kE_iload_n dX8_spanJust_107) dX8_spanJust_108)) (kE_iald (kE_get (kE_get (kE_aload_n dX8_spanJust_109) lf_RX8_37 dX8_spanJust_110) lf_RX8_70 dX8_spanJust_113) (kE_iload_n dX8_spanJust_116) dX8_spanJust_117)) dX8_spanJust_118 c_Joiner_together mv_Joiner_together lm_RX8_109 ⟨rfl, rfl, by decide, by decide⟩ (by decide)) (kZt_1 (tgt := 126) dX8_spanJust_121 (by decide)))) (kSt_ret (tag := 0) (kE_iconst dX8_spanJust_124 ⟨by decide, by decide⟩) ⟨fun _ => dX8_spanJust_125, fun q => (by cases q), fun q => (by cases q)⟩) kSt_skip))) (kSt_goto (tgt := 78) (kSt_inc dX8_spanJust_126 (by decide)) dX8_spanJust_129 (by decide)))))
  (kSt_ret (tag := 0) (kE_iconst dX8_spanJust_132 ⟨by decide, by decide⟩) ⟨fun _ => dX8_spanJust_133, fun q => (by cases q), fun q => (by cases q)⟩))))
def F_Trees_spanJust : kFn := kF 2 kZ s_Trees_spanJust
theorem c_Trees_spanJust : kCon yX8_spanJust cX8_spanJust 4 (some .boolean) { frames := 3, cells := 0, slots := 0, locals := 70 } F_Trees_spanJust := kCon_of kEnds_Z (by decide +kernel) (by decide) ⟨0, 0, 0, b_Trees_spanJust⟩
def l_Trees_greatestTree_1 : kSx := sFor 4 (cC 2 (eI 3) (eGet 10 4 (eGet 8 6 (eR 0))))
  (sTrunc 4 (sSeq (sLet 0 4 (eAld 0 (eGet 10 2 (eGet 8 6 (eR 0))) (eI 3)))
  (sIf (cAnd (cZ 1 (eAld 1 (eGet 8 1 (eR 0)) (eI 4))) (cC 3 (eAld 0 (eGet 8 0 (eR 0)) (eI 4)) (eI 2))) (sE (eCall 2 F_Joiner_join (eSnoc (eSnoc (eSnoc eNil (eR 1)) (eAld 0 (eGet 10 0 (eGet 8 6 (eR 0))) (eI 4))) (eAld 0 (eGet 10 1 (eGet 8 6 (eR 0))) (eI 4))))) sSkip)))
  (sInc 3 (1))
def s_Trees_greatestTree : kSx :=
  (sSeq (sCall 2 F_Joiner_begin (eSnoc (eSnoc eNil (eR 1)) (eGet 10 3 (eGet 8 6 (eR 0)))))
  (sSeq (sTrunc 3 (sSeq (sLet 0 3 (eK (0))) l_Trees_greatestTree_1))
  (sRet 0 (eGet 2 2 (eR 1)))))
abbrev M_Trees_greatestTree : kM := (cX8_greatestTree, yX8_greatestTree.cls, 5, { frames := 3, cells := 0, slots := 0, locals := 70 }, (some .int))
set_option maxRecDepth 20000 in
theorem b_Trees_greatestTree : kSt M_Trees_greatestTree 0 0 0 0 s_Trees_greatestTree :=
  (kSt_seq (kSt_call (kEs_snoc (kEs_snoc kEs_nil (kE_aload_n dX8_greatestTree_0)) (kE_get (kE_get (kE_aload_n dX8_greatestTree_1) lf_RX8_37 dX8_greatestTree_2) lf_RX8_41 dX8_greatestTree_5)) dX8_greatestTree_8 c_Joiner_begin mv_Joiner_begin lm_RX8_101 ⟨rfl, rfl, by decide, by decide⟩)
  (kSt_seq (kSt_trunc (kSt_seq (kSt_let (kE_iconst dX8_greatestTree_11 ⟨by decide, by decide⟩) (kSet_istore_n dX8_greatestTree_12 (by decide))) (kSt_for (pu := 81) (pt := 24) (kCd_C (kE_iload_n dX8_greatestTree_13) (kE_get (kE_get (kE_aload_n dX8_greatestTree_14) lf_RX8_37 dX8_greatestTree_15) lf_RX8_51 dX8_greatestTree_18) (kJf_2 (tgt := 87) dX8_greatestTree_21 (by decide))) (kSt_trunc (kSt_seq (kSt_let (kE_iald (kE_get (kE_get (kE_aload_n dX8_greatestTree_24) lf_RX8_37 dX8_greatestTree_25) lf_RX8_54 dX8_greatestTree_28) (kE_iload_n dX8_greatestTree_31) dX8_greatestTree_32) (kSet_istore dX8_greatestTree_33 (by decide)))
  (kSt_if (kCd_and (kCd_Z (kE_zald (kE_get (kE_aload_n dX8_greatestTree_35) lf_RX8_15 dX8_greatestTree_36) (kE_iload dX8_greatestTree_39) dX8_greatestTree_41) (kZf_1 (tgt := 81) dX8_greatestTree_42 (by decide))) (kCd_C (kE_iald (kE_get (kE_aload_n dX8_greatestTree_45) lf_RX8_9 dX8_greatestTree_46) (kE_iload dX8_greatestTree_49) dX8_greatestTree_51) (kE_iload_n dX8_greatestTree_52) (kJf_3 (tgt := 81) dX8_greatestTree_53 (by decide)))) (kSt_E (kE_call (kEs_snoc (kEs_snoc (kEs_snoc kEs_nil (kE_aload_n dX8_greatestTree_56)) (kE_iald (kE_get (kE_get (kE_aload_n dX8_greatestTree_57) lf_RX8_37 dX8_greatestTree_58) lf_RX8_67 dX8_greatestTree_61) (kE_iload dX8_greatestTree_64) dX8_greatestTree_66)) (kE_iald (kE_get (kE_get (kE_aload_n dX8_greatestTree_67) lf_RX8_37 dX8_greatestTree_68) lf_RX8_70 dX8_greatestTree_71) (kE_iload dX8_greatestTree_74) dX8_greatestTree_76)) dX8_greatestTree_77 c_Joiner_join mv_Joiner_join lm_RX8_106 ⟨rfl, rfl, by decide, by decide⟩ (by decide)) dX8_greatestTree_80) kSt_skip))) (kSt_goto (tgt := 13) (kSt_inc dX8_greatestTree_81 (by decide)) dX8_greatestTree_84 (by decide)))))
  (kSt_ret (tag := 0) (kE_get (kE_aload_n dX8_greatestTree_87) lf_RX8_117 dX8_greatestTree_88) ⟨fun _ => dX8_greatestTree_91, fun q => (by cases q), fun q => (by cases q)⟩)))
def F_Trees_greatestTree : kFn := kF 3 kI s_Trees_greatestTree
theorem c_Trees_greatestTree : kCon yX8_greatestTree cX8_greatestTree 5 (some .int) { frames := 3, cells := 0, slots := 0, locals := 70 } F_Trees_greatestTree := kCon_of kEnds_I (by decide +kernel) (by decide) ⟨0, 0, 0, b_Trees_greatestTree⟩
def l_Trees_levelsHold_1 : kSx := sFor 5 (cC 5 (eI 4) (eI 3))
  (sSeq (sIf (cC 4 (eCall 8 F_Trees_greatestTree (eSnoc (eSnoc (eSnoc eNil (eR 0)) (eR 1)) (eI 4))) (eI 2)) (sRet 0 (eK (0))) sSkip)
  (sLet 0 2 (eBin kDiv (eI 2) (eK (2)))))
  (sInc 4 (1))
def s_Trees_levelsHold : kSx :=
  (sSeq (sLet 0 2 (eGet 10 3 (eGet 8 6 (eR 0))))
  (sSeq (sLet 0 3 (eCall 8 F_Trees_greatestLevel (eSnoc eNil (eR 0))))
  (sSeq (sTrunc 4 (sSeq (sLet 0 4 (eK (0))) l_Trees_levelsHold_1))
  (sRet 0 (eK (1))))))
abbrev M_Trees_levelsHold : kM := (cX8_levelsHold, yX8_levelsHold.cls, 5, { frames := 4, cells := 0, slots := 0, locals := 94 }, (some .boolean))
set_option maxRecDepth 20000 in
theorem b_Trees_levelsHold : kSt M_Trees_levelsHold 0 0 0 0 s_Trees_levelsHold :=
  (kSt_seq (kSt_let (kE_get (kE_get (kE_aload_n dX8_levelsHold_0) lf_RX8_37 dX8_levelsHold_1) lf_RX8_41 dX8_levelsHold_4) (kSet_istore_n dX8_levelsHold_7 (by decide)))
  (kSt_seq (kSt_let (kE_call (kEs_snoc kEs_nil (kE_aload_n dX8_levelsHold_8)) dX8_levelsHold_9 c_Trees_greatestLevel mv_Trees_greatestLevel lm_RX8_110 ⟨rfl, rfl, by decide, by decide⟩ (by decide)) (kSet_istore_n dX8_levelsHold_12 (by decide)))
  (kSt_seq (kSt_trunc (kSt_seq (kSt_let (kE_iconst dX8_levelsHold_13 ⟨by decide, by decide⟩) (kSet_istore dX8_levelsHold_14 (by decide))) (kSt_for (pu := 39) (pt := 22) (kCd_C (kE_iload dX8_levelsHold_16) (kE_iload_n dX8_levelsHold_18) (kJf_5 (tgt := 45) dX8_levelsHold_19 (by decide))) (kSt_seq (kSt_if (kCd_C (kE_call (kEs_snoc (kEs_snoc (kEs_snoc kEs_nil (kE_aload_n dX8_levelsHold_22)) (kE_aload_n dX8_levelsHold_23)) (kE_iload dX8_levelsHold_24)) dX8_levelsHold_26 c_Trees_greatestTree mv_Trees_greatestTree lm_RX8_113 ⟨rfl, rfl, by decide, by decide⟩ (by decide)) (kE_iload_n dX8_levelsHold_29) (kJf_4 (tgt := 35) dX8_levelsHold_30 (by decide))) (kSt_ret (tag := 0) (kE_iconst dX8_levelsHold_33 ⟨by decide, by decide⟩) ⟨fun _ => dX8_levelsHold_34, fun q => (by cases q), fun q => (by cases q)⟩) kSt_skip)
  (kSt_let (kE_bin (kE_iload_n dX8_levelsHold_35) (kE_iconst dX8_levelsHold_36 ⟨by decide, by decide⟩) (kOp_div dX8_levelsHold_37)) (kSet_istore_n dX8_levelsHold_38 (by decide)))) (kSt_goto (tgt := 16) (kSt_inc dX8_levelsHold_39 (by decide)) dX8_levelsHold_42 (by decide)))))
  (kSt_ret (tag := 0) (kE_iconst dX8_levelsHold_45 ⟨by decide, by decide⟩) ⟨fun _ => dX8_levelsHold_46, fun q => (by cases q), fun q => (by cases q)⟩))))
def F_Trees_levelsHold : kFn := kF 2 kZ s_Trees_levelsHold
theorem c_Trees_levelsHold : kCon yX8_levelsHold cX8_levelsHold 5 (some .boolean) { frames := 4, cells := 0, slots := 0, locals := 94 } F_Trees_levelsHold := kCon_of kEnds_Z (by decide +kernel) (by decide) ⟨0, 0, 0, b_Trees_levelsHold⟩
def s_OddArcs_has : kSx :=
  (sSeq (sLet 0 2 (eBin kAdd (eAld 0 (eGet 8 5 (eGet 3 1 (eR 0))) (eAld 0 (eGet 10 0 (eGet 3 0 (eR 0))) (eI 1))) (eAld 0 (eGet 8 5 (eGet 3 1 (eR 0))) (eAld 0 (eGet 10 1 (eGet 3 0 (eR 0))) (eI 1)))))
  (sRet 0 (eIf (cAnd (cNot (cZ 1 (eAld 1 (eGet 8 1 (eGet 3 1 (eR 0))) (eI 1)))) (cZ 0 (eBin kAnd (eI 2) (eK (1))))) (eK (1)) (eK (0)))))
abbrev M_OddArcs_has : kM := (cX3_has, yX3_has.cls, 3, { frames := 0, cells := 0, slots := 0, locals := 0 }, (some .boolean))
set_option maxRecDepth 20000 in
theorem b_OddArcs_has : kSt M_OddArcs_has 0 0 0 0 s_OddArcs_has :=
  (kSt_seq (kSt_let (kE_bin (kE_iald (kE_get (kE_get (kE_aload_n dX3_has_0) lf_RX3_19 dX3_has_1) lf_RX3_23 dX3_has_4) (kE_iald (kE_get (kE_get (kE_aload_n dX3_has_7) lf_RX3_15 dX3_has_8) lf_RX3_29 dX3_has_11) (kE_iload_n dX3_has_14) dX3_has_15) dX3_has_16) (kE_iald (kE_get (kE_get (kE_aload_n dX3_has_17) lf_RX3_19 dX3_has_18) lf_RX3_23 dX3_has_21) (kE_iald (kE_get (kE_get (kE_aload_n dX3_has_24) lf_RX3_15 dX3_has_25) lf_RX3_34 dX3_has_28) (kE_iload_n dX3_has_31) dX3_has_32) dX3_has_33) (kOp_add dX3_has_34)) (kSet_istore_n dX3_has_35 (by decide)))
  (kSt_ret (tag := 0) (kE_if (kCd_and (kCd_not (kCd_Z (kE_zald (kE_get (kE_get (kE_aload_n dX3_has_36) lf_RX3_19 dX3_has_37) lf_RX3_37 dX3_has_40) (kE_iload_n dX3_has_43) dX3_has_44) (kZt_1 (tgt := 58) dX3_has_45 (by decide)))) (kCd_Z (kE_bin (kE_iload_n dX3_has_48) (kE_iconst dX3_has_49 ⟨by decide, by decide⟩) (kOp_and dX3_has_50)) (kZf_0 (tgt := 58) dX3_has_51 (by decide)))) (kE_goto (tgt := 59) (kE_iconst dX3_has_54 ⟨by decide, by decide⟩) dX3_has_55 (by decide)) (kE_iconst dX3_has_58 ⟨by decide, by decide⟩)) ⟨fun _ => dX3_has_59, fun q => (by cases q), fun q => (by cases q)⟩))
def F_OddArcs_has : kFn := kF 2 kZ s_OddArcs_has
theorem c_OddArcs_has : kCon yX3_has cX3_has 3 (some .boolean) { frames := 0, cells := 0, slots := 0, locals := 0 } F_OddArcs_has := kCon_of kEnds_Z (by decide +kernel) (by decide) ⟨0, 0, 0, b_OddArcs_has⟩
def l_OddArcs_leastIn_1 : kSx := sFor 3 (cC 2 (eI 2) (eGet 10 4 (eGet 3 0 (eR 0))))
  (sTrunc 3 (sSeq (sLet 0 3 (eAld 0 (eGet 10 2 (eGet 3 0 (eR 0))) (eI 2)))
  (sIf (cAnd (cZ 1 (eCall 3 F_OddArcs_has (eSnoc (eSnoc eNil (eR 0)) (eI 3)))) (cZ 1 (eCall 8 F_Trees_together (eSnoc (eSnoc (eSnoc eNil (eGet 3 1 (eR 0))) (eI 1)) (eAld 0 (eGet 10 0 (eGet 3 0 (eR 0))) (eI 3)))))) (sRet 0 (eI 3)) sSkip)))
  (sInc 2 (1))
def s_OddArcs_leastIn : kSx :=
  (sSeq (sTrunc 2 (sSeq (sLet 0 2 (eK (0))) l_OddArcs_leastIn_1))
  (sRet 0 (eK (-1))))
abbrev M_OddArcs_leastIn : kM := (cX3_leastIn, yX3_leastIn.cls, 4, { frames := 1, cells := 0, slots := 0, locals := 22 }, (some .int))
set_option maxRecDepth 20000 in
theorem b_OddArcs_leastIn : kSt M_OddArcs_leastIn 0 0 0 0 s_OddArcs_leastIn :=
  (kSt_seq (kSt_trunc (kSt_seq (kSt_let (kE_iconst dX3_leastIn_0 ⟨by decide, by decide⟩) (kSet_istore_n dX3_leastIn_1 (by decide))) (kSt_for (pu := 53) (pt := 13) (kCd_C (kE_iload_n dX3_leastIn_2) (kE_get (kE_get (kE_aload_n dX3_leastIn_3) lf_RX3_15 dX3_leastIn_4) lf_RX3_40 dX3_leastIn_7) (kJf_2 (tgt := 59) dX3_leastIn_10 (by decide))) (kSt_trunc (kSt_seq (kSt_let (kE_iald (kE_get (kE_get (kE_aload_n dX3_leastIn_13) lf_RX3_15 dX3_leastIn_14) lf_RX3_44 dX3_leastIn_17) (kE_iload_n dX3_leastIn_20) dX3_leastIn_21) (kSet_istore_n dX3_leastIn_22 (by decide)))
  (kSt_if (kCd_and (kCd_Z (kE_call (kEs_snoc (kEs_snoc kEs_nil (kE_aload_n dX3_leastIn_23)) (kE_iload_n dX3_leastIn_24)) dX3_leastIn_25 c_OddArcs_has mv_OddArcs_has lm_RX3_47 ⟨rfl, rfl, by decide, by decide⟩ (by decide)) (kZf_1 (tgt := 53) dX3_leastIn_28 (by decide))) (kCd_Z (kE_call (kEs_snoc (kEs_snoc (kEs_snoc kEs_nil (kE_get (kE_aload_n dX3_leastIn_31) lf_RX3_19 dX3_leastIn_32)) (kE_iload_n dX3_leastIn_35)) (kE_iald (kE_get (kE_get (kE_aload_n dX3_leastIn_36) lf_RX3_15 dX3_leastIn_37) lf_RX3_29 dX3_leastIn_40) (kE_iload_n dX3_leastIn_43) dX3_leastIn_44)) dX3_leastIn_45 c_Trees_together mv_Trees_together lm_RX3_51 ⟨rfl, rfl, by decide, by decide⟩ (by decide)) (kZf_1 (tgt := 53) dX3_leastIn_48 (by decide)))) (kSt_ret (tag := 0) (kE_iload_n dX3_leastIn_51) ⟨fun _ => dX3_leastIn_52, fun q => (by cases q), fun q => (by cases q)⟩) kSt_skip))) (kSt_goto (tgt := 2) (kSt_inc dX3_leastIn_53 (by decide)) dX3_leastIn_56 (by decide)))))
  (kSt_ret (tag := 0) (kE_iconst dX3_leastIn_59 ⟨by decide, by decide⟩) ⟨fun _ => dX3_leastIn_60, fun q => (by cases q), fun q => (by cases q)⟩))
def F_OddArcs_leastIn : kFn := kF 2 kI s_OddArcs_leastIn
theorem c_OddArcs_leastIn : kCon yX3_leastIn cX3_leastIn 4 (some .int) { frames := 1, cells := 0, slots := 0, locals := 22 } F_OddArcs_leastIn := kCon_of kEnds_I (by decide +kernel) (by decide) ⟨0, 0, 0, b_OddArcs_leastIn⟩
def l_OddArcs_evenParts_1 : kSx := sFor 2 (cC 2 (eI 1) (eGet 10 3 (eGet 3 0 (eR 0))))
  (sAst 1 (eGet 3 2 (eR 0)) (eI 1) (eK (0)))
  (sInc 1 (1))
def l_OddArcs_evenParts_2 : kSx := sFor 3 (cC 2 (eI 2) (eGet 10 4 (eGet 3 0 (eR 0))))
  (sTrunc 3 (sSeq (sLet 0 3 (eAld 0 (eGet 10 2 (eGet 3 0 (eR 0))) (eI 2)))
  (sSeq (sLet 0 4 (eAld 0 (eGet 8 2 (eGet 3 1 (eR 0))) (eAld 0 (eGet 10 0 (eGet 3 0 (eR 0))) (eI 3))))
  (sIf (cAnd (cZ 1 (eCall 3 F_OddArcs_has (eSnoc (eSnoc eNil (eR 0)) (eI 3)))) (cNot (cZ 1 (eAld 1 (eGet 3 2 (eR 0)) (eI 4))))) (sSeq (sAst 1 (eGet 3 2 (eR 0)) (eI 4) (eK (1)))
  (sInc 1 (-1))) sSkip))))
  (sInc 2 (1))
def s_OddArcs_evenParts : kSx :=
  (sSeq (sTrunc 1 (sSeq (sLet 0 1 (eK (0))) l_OddArcs_evenParts_1))
  (sSeq (sLet 0 1 (eCall 8 F_Trees_parts (eSnoc eNil (eGet 3 1 (eR 0)))))
  (sSeq (sTrunc 2 (sSeq (sLet 0 2 (eK (0))) l_OddArcs_evenParts_2))
  (sRet 0 (eI 1)))))
abbrev M_OddArcs_evenParts : kM := (cX3_evenParts, yX3_evenParts.cls, 5, { frames := 2, cells := 0, slots := 0, locals := 42 }, (some .int))
set_option maxRecDepth 20000 in
theorem b_OddArcs_evenParts : kSt M_OddArcs_evenParts 0 0 0 0 s_OddArcs_evenParts :=
  (kSt_seq (kSt_trunc (kSt_seq (kSt_let (kE_iconst dX3_evenParts_0 ⟨by decide, by decide⟩) (kSet_istore_n dX3_evenParts_1 (by decide))) (kSt_for (pu := 20) (pt := 13) (kCd_C (kE_iload_n dX3_evenParts_2) (kE_get (kE_get (kE_aload_n dX3_evenParts_3) lf_RX3_15 dX3_evenParts_4) lf_RX3_55 dX3_evenParts_7) (kJf_2 (tgt := 26) dX3_evenParts_10 (by decide))) (kSt_zast (kE_get (kE_aload_n dX3_evenParts_13) lf_RX3_9 dX3_evenParts_14) (kE_iload_n dX3_evenParts_17) (kE_iconst dX3_evenParts_18 ⟨by decide, by decide⟩) dX3_evenParts_19) (kSt_goto (tgt := 2) (kSt_inc dX3_evenParts_20 (by decide)) dX3_evenParts_23 (by decide)))))
  (kSt_seq (kSt_let (kE_call (kEs_snoc kEs_nil (kE_get (kE_aload_n dX3_evenParts_26) lf_RX3_19 dX3_evenParts_27)) dX3_evenParts_30 c_Trees_parts mv_Trees_parts lm_RX3_58 ⟨rfl, rfl, by decide, by decide⟩ (by decide)) (kSet_istore_n dX3_evenParts_33 (by decide)))
  (kSt_seq (kSt_trunc (kSt_seq (kSt_let (kE_iconst dX3_evenParts_34 ⟨by decide, by decide⟩) (kSet_istore_n dX3_evenParts_35 (by decide))) (kSt_for (pu := 105) (pt := 47) (kCd_C (kE_iload_n dX3_evenParts_36) (kE_get (kE_get (kE_aload_n dX3_evenParts_37) lf_RX3_15 dX3_evenParts_38) lf_RX3_40 dX3_evenParts_41) (kJf_2 (tgt := 111) dX3_evenParts_44 (by decide))) (kSt_trunc (kSt_seq (kSt_let (kE_iald (kE_get (kE_get (kE_aload_n dX3_evenParts_47) lf_RX3_15 dX3_evenParts_48) lf_RX3_44 dX3_evenParts_51) (kE_iload_n dX3_evenParts_54) dX3_evenParts_55) (kSet_istore_n dX3_evenParts_56 (by decide)))
  (kSt_seq (kSt_let (kE_iald (kE_get (kE_get (kE_aload_n dX3_evenParts_57) lf_RX3_19 dX3_evenParts_58) lf_RX3_62 dX3_evenParts_61) (kE_iald (kE_get (kE_get (kE_aload_n dX3_evenParts_64) lf_RX3_15 dX3_evenParts_65) lf_RX3_29 dX3_evenParts_68) (kE_iload_n dX3_evenParts_71) dX3_evenParts_72) dX3_evenParts_73) (kSet_istore dX3_evenParts_74 (by decide)))
  (kSt_if (kCd_and (kCd_Z (kE_call (kEs_snoc (kEs_snoc kEs_nil (kE_aload_n dX3_evenParts_76)) (kE_iload_n dX3_evenParts_77)) dX3_evenParts_78 c_OddArcs_has mv_OddArcs_has lm_RX3_47 ⟨rfl, rfl, by decide, by decide⟩ (by decide)) (kZf_1 (tgt := 105) dX3_evenParts_81 (by decide))) (kCd_not (kCd_Z (kE_zald (kE_get (kE_aload_n dX3_evenParts_84) lf_RX3_9 dX3_evenParts_85) (kE_iload dX3_evenParts_88) dX3_evenParts_90) (kZt_1 (tgt := 105) dX3_evenParts_91 (by decide))))) (kSt_seq (kSt_zast (kE_get (kE_aload_n dX3_evenParts_94) lf_RX3_9 dX3_evenParts_95) (kE_iload dX3_evenParts_98) (kE_iconst dX3_evenParts_100 ⟨by decide, by decide⟩) dX3_evenParts_101)
  (kSt_inc dX3_evenParts_102 (by decide))) kSt_skip)))) (kSt_goto (tgt := 36) (kSt_inc dX3_evenParts_105 (by decide)) dX3_evenParts_108 (by decide)))))
  (kSt_ret (tag := 0) (kE_iload_n dX3_evenParts_111) ⟨fun _ => dX3_evenParts_112, fun q => (by cases q), fun q => (by cases q)⟩))))
def F_OddArcs_evenParts : kFn := kF 1 kI s_OddArcs_evenParts
theorem c_OddArcs_evenParts : kCon yX3_evenParts cX3_evenParts 5 (some .int) { frames := 2, cells := 0, slots := 0, locals := 42 } F_OddArcs_evenParts := kCon_of kEnds_I (by decide +kernel) (by decide) ⟨0, 0, 0, b_OddArcs_evenParts⟩
def l_OddArcs_climb_1 : kSx := sFor 5 (cAnd (cC 2 (eI 4) (eI 2)) (cC 1 (eAld 0 (eGet 8 3 (eGet 3 1 (eR 0))) (eI 3)) (eK (-1))))
  (sLet 0 3 (eAld 0 (eGet 8 3 (eGet 3 1 (eR 0))) (eI 3)))
  (sInc 4 (1))
def s_OddArcs_climb : kSx :=
  (sSeq (sLet 0 3 (eI 1))
  (sSeq (sTrunc 4 (sSeq (sLet 0 4 (eK (0))) l_OddArcs_climb_1))
  (sRet 0 (eI 3))))
abbrev M_OddArcs_climb : kM := (cX3_climb, yX3_climb.cls, 5, { frames := 0, cells := 0, slots := 0, locals := 0 }, (some .int))
set_option maxRecDepth 20000 in
theorem b_OddArcs_climb : kSt M_OddArcs_climb 0 0 0 0 s_OddArcs_climb :=
  (kSt_seq (kSt_let (kE_iload_n dX3_climb_0) (kSet_istore_n dX3_climb_1 (by decide)))
  (kSt_seq (kSt_trunc (kSt_seq (kSt_let (kE_iconst dX3_climb_2 ⟨by decide, by decide⟩) (kSet_istore dX3_climb_3 (by decide))) (kSt_for (pu := 34) (pt := 24) (kCd_and (kCd_C (kE_iload dX3_climb_5) (kE_iload_n dX3_climb_7) (kJf_2 (tgt := 40) dX3_climb_8 (by decide))) (kCd_C (kE_iald (kE_get (kE_get (kE_aload_n dX3_climb_11) lf_RX3_19 dX3_climb_12) lf_RX3_79 dX3_climb_15) (kE_iload_n dX3_climb_18) dX3_climb_19) (kE_iconst dX3_climb_20 ⟨by decide, by decide⟩) (kJf_1 (tgt := 40) dX3_climb_21 (by decide)))) (kSt_let (kE_iald (kE_get (kE_get (kE_aload_n dX3_climb_24) lf_RX3_19 dX3_climb_25) lf_RX3_79 dX3_climb_28) (kE_iload_n dX3_climb_31) dX3_climb_32) (kSet_istore_n dX3_climb_33 (by decide))) (kSt_goto (tgt := 5) (kSt_inc dX3_climb_34 (by decide)) dX3_climb_37 (by decide)))))
  (kSt_ret (tag := 0) (kE_iload_n dX3_climb_40) ⟨fun _ => dX3_climb_41, fun q => (by cases q), fun q => (by cases q)⟩)))
def F_OddArcs_climb : kFn := kF 3 kI s_OddArcs_climb
theorem c_OddArcs_climb : kCon yX3_climb cX3_climb 5 (some .int) { frames := 0, cells := 0, slots := 0, locals := 0 } F_OddArcs_climb := kCon_of kEnds_I (by decide +kernel) (by decide) ⟨0, 0, 0, b_OddArcs_climb⟩
def l_OddArcs_meeting_1 : kSx := sFor 6 (cAnd (cC 2 (eI 5) (eK (600))) (cC 1 (eI 3) (eI 4)))
  (sIf (cC 3 (eAld 0 (eGet 8 5 (eGet 3 1 (eR 0))) (eI 3)) (eAld 0 (eGet 8 5 (eGet 3 1 (eR 0))) (eI 4))) (sLet 0 3 (eCall 3 F_OddArcs_climb (eSnoc (eSnoc (eSnoc eNil (eR 0)) (eI 3)) (eK (1)))))
  (sLet 0 4 (eCall 3 F_OddArcs_climb (eSnoc (eSnoc (eSnoc eNil (eR 0)) (eI 4)) (eK (1))))))
  (sInc 5 (1))
def s_OddArcs_meeting : kSx :=
  (sSeq (sLet 0 3 (eI 1))
  (sSeq (sLet 0 4 (eI 2))
  (sSeq (sTrunc 5 (sSeq (sLet 0 5 (eK (0))) l_OddArcs_meeting_1))
  (sRet 0 (eI 3)))))
abbrev M_OddArcs_meeting : kM := (cX3_meeting, yX3_meeting.cls, 6, { frames := 1, cells := 0, slots := 0, locals := 24 }, (some .int))
set_option maxRecDepth 20000 in
theorem b_OddArcs_meeting : kSt M_OddArcs_meeting 0 0 0 0 s_OddArcs_meeting :=
  (kSt_seq (kSt_let (kE_iload_n dX3_meeting_0) (kSet_istore_n dX3_meeting_1 (by decide)))
  (kSt_seq (kSt_let (kE_iload_n dX3_meeting_2) (kSet_istore dX3_meeting_3 (by decide)))
  (kSt_seq (kSt_trunc (kSt_seq (kSt_let (kE_iconst dX3_meeting_5 ⟨by decide, by decide⟩) (kSet_istore dX3_meeting_6 (by decide))) (kSt_for (pu := 63) (pt := 22) (kCd_and (kCd_C (kE_iload dX3_meeting_8) (kE_sipush dX3_meeting_10 (by rfl) ⟨by decide, by decide⟩) (kJf_2 (tgt := 69) dX3_meeting_13 (by decide))) (kCd_C (kE_iload_n dX3_meeting_16) (kE_iload dX3_meeting_17) (kJf_1 (tgt := 69) dX3_meeting_19 (by decide)))) (kSt_if (kCd_C (kE_iald (kE_get (kE_get (kE_aload_n dX3_meeting_22) lf_RX3_19 dX3_meeting_23) lf_RX3_23 dX3_meeting_26) (kE_iload_n dX3_meeting_29) dX3_meeting_30) (kE_iald (kE_get (kE_get (kE_aload_n dX3_meeting_31) lf_RX3_19 dX3_meeting_32) lf_RX3_23 dX3_meeting_35) (kE_iload dX3_meeting_38) dX3_meeting_40) (kJf_3 (tgt := 54) dX3_meeting_41 (by decide))) (kSt_goto (tgt := 63) (kSt_let (kE_call (kEs_snoc (kEs_snoc (kEs_snoc kEs_nil (kE_aload_n dX3_meeting_44)) (kE_iload_n dX3_meeting_45)) (kE_iconst dX3_meeting_46 ⟨by decide, by decide⟩)) dX3_meeting_47 c_OddArcs_climb mv_OddArcs_climb lm_RX3_76 ⟨rfl, rfl, by decide, by decide⟩ (by decide)) (kSet_istore_n dX3_meeting_50 (by decide))) dX3_meeting_51 (by decide))
  (kSt_let (kE_call (kEs_snoc (kEs_snoc (kEs_snoc kEs_nil (kE_aload_n dX3_meeting_54)) (kE_iload dX3_meeting_55)) (kE_iconst dX3_meeting_57 ⟨by decide, by decide⟩)) dX3_meeting_58 c_OddArcs_climb mv_OddArcs_climb lm_RX3_76 ⟨rfl, rfl, by decide, by decide⟩ (by decide)) (kSet_istore dX3_meeting_61 (by decide)))) (kSt_goto (tgt := 8) (kSt_inc dX3_meeting_63 (by decide)) dX3_meeting_66 (by decide)))))
  (kSt_ret (tag := 0) (kE_iload_n dX3_meeting_69) ⟨fun _ => dX3_meeting_70, fun q => (by cases q), fun q => (by cases q)⟩))))
def F_OddArcs_meeting : kFn := kF 3 kI s_OddArcs_meeting
theorem c_OddArcs_meeting : kCon yX3_meeting cX3_meeting 6 (some .int) { frames := 1, cells := 0, slots := 0, locals := 24 } F_OddArcs_meeting := kCon_of kEnds_I (by decide +kernel) (by decide) ⟨0, 0, 0, b_OddArcs_meeting⟩
def s_OddArcs_ringArc : kSx :=
  (sSeq (sLet 0 3 (eCall 3 F_OddArcs_leastIn (eSnoc (eSnoc eNil (eR 0)) (eI 1))))
  (sSeq (sIf (cOr (cC 0 (eI 3) (eK (-1))) (cZ 0 (eI 2))) (sRet 0 (eI 3)) sSkip)
  (sSeq (sLet 0 4 (eAld 0 (eGet 10 1 (eGet 3 0 (eR 0))) (eI 3)))
  (sSeq (sLet 0 5 (eAld 0 (eGet 10 0 (eGet 3 0 (eR 0))) (eI 3)))
  (sSeq (sLet 0 6 (eAld 0 (eGet 8 5 (eGet 3 1 (eR 0))) (eCall 3 F_OddArcs_meeting (eSnoc (eSnoc (eSnoc eNil (eR 0)) (eI 4)) (eI 5)))))
  (sSeq (sLet 0 7 (eBin kSub (eAld 0 (eGet 8 5 (eGet 3 1 (eR 0))) (eI 4)) (eI 6)))
  (sSeq (sLet 0 8 (eBin kSub (eBin kAdd (eI 7) (eAld 0 (eGet 8 5 (eGet 3 1 (eR 0))) (eI 5))) (eI 6)))
  (sSeq (sIf (cC 4 (eI 2) (eI 8)) (sRet 0 (eK (-1))) sSkip)
  (sRet 0 (eAld 0 (eGet 8 4 (eGet 3 1 (eR 0))) (eIf (cC 5 (eI 2) (eI 7)) (eCall 3 F_OddArcs_climb (eSnoc (eSnoc (eSnoc eNil (eR 0)) (eI 4)) (eBin kSub (eI 2) (eK (1))))) (eCall 3 F_OddArcs_climb (eSnoc (eSnoc (eSnoc eNil (eR 0)) (eI 5)) (eBin kSub (eI 8) (eI 2)))))))))))))))
abbrev M_OddArcs_ringArc : kM := (cX3_ringArc, yX3_ringArc.cls, 9, { frames := 2, cells := 0, slots := 0, locals := 49 }, (some .int))
set_option maxRecDepth 20000 in
theorem b_OddArcs_ringArc : kSt M_OddArcs_ringArc 0 0 0 0 s_OddArcs_ringArc :=
  (kSt_seq (kSt_let (kE_call (kEs_snoc (kEs_snoc kEs_nil (kE_aload_n dX3_ringArc_0)) (kE_iload_n dX3_ringArc_1)) dX3_ringArc_2 c_OddArcs_leastIn mv_OddArcs_leastIn lm_RX3_65 ⟨rfl, rfl, by decide, by decide⟩ (by decide)) (kSet_istore_n dX3_ringArc_5 (by decide)))
  (kSt_seq (kSt_if (kCd_or (kCd_C (kE_iload_n dX3_ringArc_6) (kE_iconst dX3_ringArc_7 ⟨by decide, by decide⟩) (kJt_0 (tgt := 15) dX3_ringArc_8 (by decide))) (kCd_Z (kE_iload_n dX3_ringArc_11) (kZf_0 (tgt := 17) dX3_ringArc_12 (by decide)))) (kSt_ret (tag := 0) (kE_iload_n dX3_ringArc_15) ⟨fun _ => dX3_ringArc_16, fun q => (by cases q), fun q => (by cases q)⟩) kSt_skip)
  (kSt_seq (kSt_let (kE_iald (kE_get (kE_get (kE_aload_n dX3_ringArc_17) lf_RX3_15 dX3_ringArc_18) lf_RX3_34 dX3_ringArc_21) (kE_iload_n dX3_ringArc_24) dX3_ringArc_25) (kSet_istore dX3_ringArc_26 (by decide)))
  (kSt_seq (kSt_let (kE_iald (kE_get (kE_get (kE_aload_n dX3_ringArc_28) lf_RX3_15 dX3_ringArc_29) lf_RX3_29 dX3_ringArc_32) (kE_iload_n dX3_ringArc_35) dX3_ringArc_36) (kSet_istore dX3_ringArc_37 (by decide)))
  (kSt_seq (kSt_let (kE_iald (kE_get (kE_get (kE_aload_n dX3_ringArc_39) lf_RX3_19 dX3_ringArc_40) lf_RX3_23 dX3_ringArc_43) (kE_call (kEs_snoc (kEs_snoc (kEs_snoc kEs_nil (kE_aload_n dX3_ringArc_46)) (kE_iload dX3_ringArc_47)) (kE_iload dX3_ringArc_49)) dX3_ringArc_51 c_OddArcs_meeting mv_OddArcs_meeting lm_RX3_69 ⟨rfl, rfl, by decide, by decide⟩ (by decide)) dX3_ringArc_54) (kSet_istore dX3_ringArc_55 (by decide)))
  (kSt_seq (kSt_let (kE_bin (kE_iald (kE_get (kE_get (kE_aload_n dX3_ringArc_57) lf_RX3_19 dX3_ringArc_58) lf_RX3_23 dX3_ringArc_61) (kE_iload dX3_ringArc_64) dX3_ringArc_66) (kE_iload dX3_ringArc_67) (kOp_sub dX3_ringArc_69)) (kSet_istore dX3_ringArc_70 (by decide)))
  (kSt_seq (kSt_let (kE_bin (kE_bin (kE_iload dX3_ringArc_72) (kE_iald (kE_get (kE_get (kE_aload_n dX3_ringArc_74) lf_RX3_19 dX3_ringArc_75) lf_RX3_23 dX3_ringArc_78) (kE_iload dX3_ringArc_81) dX3_ringArc_83) (kOp_add dX3_ringArc_84)) (kE_iload dX3_ringArc_85) (kOp_sub dX3_ringArc_87)) (kSet_istore dX3_ringArc_88 (by decide)))
  (kSt_seq (kSt_if (kCd_C (kE_iload_n dX3_ringArc_90) (kE_iload dX3_ringArc_91) (kJf_4 (tgt := 98) dX3_ringArc_93 (by decide))) (kSt_ret (tag := 0) (kE_iconst dX3_ringArc_96 ⟨by decide, by decide⟩) ⟨fun _ => dX3_ringArc_97, fun q => (by cases q), fun q => (by cases q)⟩) kSt_skip)
  (kSt_ret (tag := 0) (kE_iald (kE_get (kE_get (kE_aload_n dX3_ringArc_98) lf_RX3_19 dX3_ringArc_99) lf_RX3_73 dX3_ringArc_102) (kE_if (kCd_C (kE_iload_n dX3_ringArc_105) (kE_iload dX3_ringArc_106) (kJf_5 (tgt := 123) dX3_ringArc_108 (by decide))) (kE_goto (tgt := 133) (kE_call (kEs_snoc (kEs_snoc (kEs_snoc kEs_nil (kE_aload_n dX3_ringArc_111)) (kE_iload dX3_ringArc_112)) (kE_bin (kE_iload_n dX3_ringArc_114) (kE_iconst dX3_ringArc_115 ⟨by decide, by decide⟩) (kOp_sub dX3_ringArc_116))) dX3_ringArc_117 c_OddArcs_climb mv_OddArcs_climb lm_RX3_76 ⟨rfl, rfl, by decide, by decide⟩ (by decide)) dX3_ringArc_120 (by decide)) (kE_call (kEs_snoc (kEs_snoc (kEs_snoc kEs_nil (kE_aload_n dX3_ringArc_123)) (kE_iload dX3_ringArc_124)) (kE_bin (kE_iload dX3_ringArc_126) (kE_iload_n dX3_ringArc_128) (kOp_sub dX3_ringArc_129))) dX3_ringArc_130 c_OddArcs_climb mv_OddArcs_climb lm_RX3_76 ⟨rfl, rfl, by decide, by decide⟩ (by decide))) dX3_ringArc_133) ⟨fun _ => dX3_ringArc_134, fun q => (by cases q), fun q => (by cases q)⟩)))))))))
def F_OddArcs_ringArc : kFn := kF 3 kI s_OddArcs_ringArc
theorem c_OddArcs_ringArc : kCon yX3_ringArc cX3_ringArc 9 (some .int) { frames := 2, cells := 0, slots := 0, locals := 49 } F_OddArcs_ringArc := kCon_of kEnds_I (by decide +kernel) (by decide) ⟨0, 0, 0, b_OddArcs_ringArc⟩
def l_Twice_topOf_1 : kSx := sFor 4 (cAnd (cC 2 (eI 3) (eK (300))) (cC 1 (eAld 0 (eGet 9 2 (eR 0)) (eI 2)) (eI 2)))
  (sSeq (sAst 0 (eGet 9 2 (eR 0)) (eI 2) (eAld 0 (eGet 9 2 (eR 0)) (eAld 0 (eGet 9 2 (eR 0)) (eI 2))))
  (sLet 0 2 (eAld 0 (eGet 9 2 (eR 0)) (eI 2))))
  (sInc 3 (1))
def s_Twice_topOf : kSx :=
  (sSeq (sLet 0 2 (eI 1))
  (sSeq (sTrunc 3 (sSeq (sLet 0 3 (eK (0))) l_Twice_topOf_1))
  (sRet 0 (eI 2))))
abbrev M_Twice_topOf : kM := (cX9_topOf, yX9_topOf.cls, 4, { frames := 0, cells := 0, slots := 0, locals := 0 }, (some .int))
set_option maxRecDepth 20000 in
theorem b_Twice_topOf : kSt M_Twice_topOf 0 0 0 0 s_Twice_topOf :=
  (kSt_seq (kSt_let (kE_iload_n dX9_topOf_0) (kSet_istore_n dX9_topOf_1 (by decide)))
  (kSt_seq (kSt_trunc (kSt_seq (kSt_let (kE_iconst dX9_topOf_2 ⟨by decide, by decide⟩) (kSet_istore_n dX9_topOf_3 (by decide))) (kSt_for (pu := 45) (pt := 21) (kCd_and (kCd_C (kE_iload_n dX9_topOf_4) (kE_sipush dX9_topOf_5 (by rfl) ⟨by decide, by decide⟩) (kJf_2 (tgt := 51) dX9_topOf_8 (by decide))) (kCd_C (kE_iald (kE_get (kE_aload_n dX9_topOf_11) lf_RX9_9 dX9_topOf_12) (kE_iload_n dX9_topOf_15) dX9_topOf_16) (kE_iload_n dX9_topOf_17) (kJf_1 (tgt := 51) dX9_topOf_18 (by decide)))) (kSt_seq (kSt_iast (kE_get (kE_aload_n dX9_topOf_21) lf_RX9_9 dX9_topOf_22) (kE_iload_n dX9_topOf_25) (kE_iald (kE_get (kE_aload_n dX9_topOf_26) lf_RX9_9 dX9_topOf_27) (kE_iald (kE_get (kE_aload_n dX9_topOf_30) lf_RX9_9 dX9_topOf_31) (kE_iload_n dX9_topOf_34) dX9_topOf_35) dX9_topOf_36) dX9_topOf_37)
  (kSt_let (kE_iald (kE_get (kE_aload_n dX9_topOf_38) lf_RX9_9 dX9_topOf_39) (kE_iload_n dX9_topOf_42) dX9_topOf_43) (kSet_istore_n dX9_topOf_44 (by decide)))) (kSt_goto (tgt := 4) (kSt_inc dX9_topOf_45 (by decide)) dX9_topOf_48 (by decide)))))
  (kSt_ret (tag := 0) (kE_iload_n dX9_topOf_51) ⟨fun _ => dX9_topOf_52, fun q => (by cases q), fun q => (by cases q)⟩)))
def F_Twice_topOf : kFn := kF 2 kI s_Twice_topOf
theorem c_Twice_topOf : kCon yX9_topOf cX9_topOf 4 (some .int) { frames := 0, cells := 0, slots := 0, locals := 0 } F_Twice_topOf := kCon_of kEnds_I (by decide +kernel) (by decide) ⟨0, 0, 0, b_Twice_topOf⟩
def l_Twice_tie_1 : kSx := sFor 6 (cAnd (cC 2 (eI 5) (eK (600))) (cC 1 (eI 3) (eI 4)))
  (sTrunc 6 (sSeq (sLet 0 6 (eIf (cC 3 (eAld 0 (eGet 8 5 (eGet 9 1 (eR 0))) (eI 3)) (eAld 0 (eGet 8 5 (eGet 9 1 (eR 0))) (eI 4))) (eI 3) (eI 4)))
  (sSeq (sLet 0 7 (eIf (cC 0 (eI 6) (eI 3)) (eI 4) (eI 3)))
  (sSeq (sLet 0 8 (eAld 0 (eGet 8 3 (eGet 9 1 (eR 0))) (eI 6)))
  (sSeq (sIf (cC 0 (eI 8) (eK (-1))) sRetV sSkip)
  (sSeq (sAst 0 (eGet 9 2 (eR 0)) (eI 6) (eI 8))
  (sSeq (sLet 0 3 (eCall 9 F_Twice_topOf (eSnoc (eSnoc eNil (eR 0)) (eI 8))))
  (sLet 0 4 (eI 7)))))))))
  (sInc 5 (1))
def s_Twice_tie : kSx :=
  (sSeq (sSeq (sLet 0 3 (eCall 9 F_Twice_topOf (eSnoc (eSnoc eNil (eR 0)) (eI 1))))
  (sSeq (sLet 0 4 (eCall 9 F_Twice_topOf (eSnoc (eSnoc eNil (eR 0)) (eI 2))))
  (sTrunc 5 (sSeq (sLet 0 5 (eK (0))) l_Twice_tie_1)))) sRetV)
abbrev M_Twice_tie : kM := (cX9_tie, yX9_tie.cls, 9, { frames := 1, cells := 0, slots := 0, locals := 23 }, none)
set_option maxRecDepth 20000 in
theorem b_Twice_tie : kSt M_Twice_tie 0 0 0 0 s_Twice_tie :=
  (kSt_seq (kSt_seq (kSt_let (kE_call (kEs_snoc (kEs_snoc kEs_nil (kE_aload_n dX9_tie_0)) (kE_iload_n dX9_tie_1)) dX9_tie_2 c_Twice_topOf mv_Twice_topOf lm_RX9_26 ⟨rfl, rfl, by decide, by decide⟩ (by decide)) (kSet_istore_n dX9_tie_5 (by decide)))
  (kSt_seq (kSt_let (kE_call (kEs_snoc (kEs_snoc kEs_nil (kE_aload_n dX9_tie_6)) (kE_iload_n dX9_tie_7)) dX9_tie_8 c_Twice_topOf mv_Twice_topOf lm_RX9_26 ⟨rfl, rfl, by decide, by decide⟩ (by decide)) (kSet_istore dX9_tie_11 (by decide)))
  (kSt_trunc (kSt_seq (kSt_let (kE_iconst dX9_tie_13 ⟨by decide, by decide⟩) (kSet_istore dX9_tie_14 (by decide))) (kSt_for (pu := 113) (pt := 30) (kCd_and (kCd_C (kE_iload dX9_tie_16) (kE_sipush dX9_tie_18 (by rfl) ⟨by decide, by decide⟩) (kJf_2 (tgt := 119) dX9_tie_21 (by decide))) (kCd_C (kE_iload_n dX9_tie_24) (kE_iload dX9_tie_25) (kJf_1 (tgt := 119) dX9_tie_27 (by decide)))) (kSt_trunc (kSt_seq (kSt_let (kE_if (kCd_C (kE_iald (kE_get (kE_get (kE_aload_n dX9_tie_30) lf_RX9_19 dX9_tie_31) lf_RX9_70 dX9_tie_34) (kE_iload_n dX9_tie_37) dX9_tie_38) (kE_iald (kE_get (kE_get (kE_aload_n dX9_tie_39) lf_RX9_19 dX9_tie_40) lf_RX9_70 dX9_tie_43) (kE_iload dX9_tie_46) dX9_tie_48) (kJf_3 (tgt := 56) dX9_tie_49 (by decide))) (kE_goto (tgt := 58) (kE_iload_n dX9_tie_52) dX9_tie_53 (by decide)) (kE_iload dX9_tie_56)) (kSet_istore dX9_tie_58 (by decide)))
  (kSt_seq (kSt_let (kE_if (kCd_C (kE_iload dX9_tie_60) (kE_iload_n dX9_tie_62) (kJf_0 (tgt := 71) dX9_tie_63 (by decide))) (kE_goto (tgt := 72) (kE_iload dX9_tie_66) dX9_tie_68 (by decide)) (kE_iload_n dX9_tie_71)) (kSet_istore dX9_tie_72 (by decide)))
  (kSt_seq (kSt_let (kE_iald (kE_get (kE_get (kE_aload_n dX9_tie_74) lf_RX9_19 dX9_tie_75) lf_RX9_73 dX9_tie_78) (kE_iload dX9_tie_81) dX9_tie_83) (kSet_istore dX9_tie_84 (by decide)))
  (kSt_seq (kSt_if (kCd_C (kE_iload dX9_tie_86) (kE_iconst dX9_tie_88 ⟨by decide, by decide⟩) (kJf_0 (tgt := 93) dX9_tie_89 (by decide))) (kSt_retV dX9_tie_92) kSt_skip)
  (kSt_seq (kSt_iast (kE_get (kE_aload_n dX9_tie_93) lf_RX9_9 dX9_tie_94) (kE_iload dX9_tie_97) (kE_iload dX9_tie_99) dX9_tie_101)
  (kSt_seq (kSt_let (kE_call (kEs_snoc (kEs_snoc kEs_nil (kE_aload_n dX9_tie_102)) (kE_iload dX9_tie_103)) dX9_tie_105 c_Twice_topOf mv_Twice_topOf lm_RX9_26 ⟨rfl, rfl, by decide, by decide⟩ (by decide)) (kSet_istore_n dX9_tie_108 (by decide)))
  (kSt_let (kE_iload dX9_tie_109) (kSet_istore dX9_tie_111 (by decide)))))))))) (kSt_goto (tgt := 16) (kSt_inc dX9_tie_113 (by decide)) dX9_tie_116 (by decide))))))) (kSt_retV dX9_tie_119))
def F_Twice_tie : kFn := kF 3 kN s_Twice_tie
theorem c_Twice_tie : kCon yX9_tie cX9_tie 9 none { frames := 1, cells := 0, slots := 0, locals := 23 } F_Twice_tie := kCon_of kEnds_V (by decide +kernel) (by decide) ⟨0, 0, 0, b_Twice_tie⟩
def l_Twice_look_1 : kSx := sFor 2 (cC 2 (eI 1) (eGet 10 3 (eGet 9 0 (eR 0))))
  (sAst 0 (eGet 9 2 (eR 0)) (eI 1) (eI 1))
  (sInc 1 (1))
def l_Twice_look_2 : kSx := sFor 2 (cC 2 (eI 1) (eGet 10 4 (eGet 9 0 (eR 0))))
  (sTrunc 2 (sSeq (sLet 0 2 (eAld 0 (eGet 10 2 (eGet 9 0 (eR 0))) (eI 1)))
  (sIf (cNot (cZ 1 (eAld 1 (eGet 8 1 (eGet 9 1 (eR 0))) (eI 2)))) (sCall 9 F_Twice_tie (eSnoc (eSnoc (eSnoc eNil (eR 0)) (eAld 0 (eGet 10 0 (eGet 9 0 (eR 0))) (eI 2))) (eAld 0 (eGet 10 1 (eGet 9 0 (eR 0))) (eI 2)))) sSkip)))
  (sInc 1 (1))
def s_Twice_look : kSx :=
  (sSeq (sSeq (sIf (cC 0 (eGet 9 3 (eR 0)) (eGet 10 5 (eGet 9 0 (eR 0)))) sRetV sSkip)
  (sSeq (sTrunc 1 (sSeq (sLet 0 1 (eK (0))) l_Twice_look_1))
  (sSeq (sTrunc 1 (sSeq (sLet 0 1 (eK (0))) l_Twice_look_2))
  (sPut 9 3 (eR 0) (eGet 10 5 (eGet 9 0 (eR 0))))))) sRetV)
abbrev M_Twice_look : kM := (cX9_look, yX9_look.cls, 3, { frames := 2, cells := 0, slots := 0, locals := 51 }, none)
set_option maxRecDepth 20000 in
theorem b_Twice_look : kSt M_Twice_look 0 0 0 0 s_Twice_look :=
  (kSt_seq (kSt_seq (kSt_if (kCd_C (kE_get (kE_aload_n dX9_look_0) lf_RX9_59 dX9_look_1) (kE_get (kE_get (kE_aload_n dX9_look_4) lf_RX9_15 dX9_look_5) lf_RX9_62 dX9_look_8) (kJf_0 (tgt := 15) dX9_look_11 (by decide))) (kSt_retV dX9_look_14) kSt_skip)
  (kSt_seq (kSt_trunc (kSt_seq (kSt_let (kE_iconst dX9_look_15 ⟨by decide, by decide⟩) (kSet_istore_n dX9_look_16 (by decide))) (kSt_for (pu := 35) (pt := 28) (kCd_C (kE_iload_n dX9_look_17) (kE_get (kE_get (kE_aload_n dX9_look_18) lf_RX9_15 dX9_look_19) lf_RX9_63 dX9_look_22) (kJf_2 (tgt := 41) dX9_look_25 (by decide))) (kSt_iast (kE_get (kE_aload_n dX9_look_28) lf_RX9_9 dX9_look_29) (kE_iload_n dX9_look_32) (kE_iload_n dX9_look_33) dX9_look_34) (kSt_goto (tgt := 17) (kSt_inc dX9_look_35 (by decide)) dX9_look_38 (by decide)))))
  (kSt_seq (kSt_trunc (kSt_seq (kSt_let (kE_iconst dX9_look_41 ⟨by decide, by decide⟩) (kSet_istore_n dX9_look_42 (by decide))) (kSt_for (pu := 98) (pt := 54) (kCd_C (kE_iload_n dX9_look_43) (kE_get (kE_get (kE_aload_n dX9_look_44) lf_RX9_15 dX9_look_45) lf_RX9_48 dX9_look_48) (kJf_2 (tgt := 104) dX9_look_51 (by decide))) (kSt_trunc (kSt_seq (kSt_let (kE_iald (kE_get (kE_get (kE_aload_n dX9_look_54) lf_RX9_15 dX9_look_55) lf_RX9_52 dX9_look_58) (kE_iload_n dX9_look_61) dX9_look_62) (kSet_istore_n dX9_look_63 (by decide)))
  (kSt_if (kCd_not (kCd_Z (kE_zald (kE_get (kE_get (kE_aload_n dX9_look_64) lf_RX9_19 dX9_look_65) lf_RX9_30 dX9_look_68) (kE_iload_n dX9_look_71) dX9_look_72) (kZt_1 (tgt := 98) dX9_look_73 (by decide)))) (kSt_call (kEs_snoc (kEs_snoc (kEs_snoc kEs_nil (kE_aload_n dX9_look_76)) (kE_iald (kE_get (kE_get (kE_aload_n dX9_look_77) lf_RX9_15 dX9_look_78) lf_RX9_36 dX9_look_81) (kE_iload_n dX9_look_84) dX9_look_85)) (kE_iald (kE_get (kE_get (kE_aload_n dX9_look_86) lf_RX9_15 dX9_look_87) lf_RX9_41 dX9_look_90) (kE_iload_n dX9_look_93) dX9_look_94)) dX9_look_95 c_Twice_tie mv_Twice_tie lm_RX9_66 ⟨rfl, rfl, by decide, by decide⟩) kSt_skip))) (kSt_goto (tgt := 43) (kSt_inc dX9_look_98 (by decide)) dX9_look_101 (by decide)))))
  (kSt_put (kE_aload_n dX9_look_104) (kE_get (kE_get (kE_aload_n dX9_look_105) lf_RX9_15 dX9_look_106) lf_RX9_62 dX9_look_109) lp_RX9_59 dX9_look_112)))) (kSt_retV dX9_look_115))
def F_Twice_look : kFn := kF 1 kN s_Twice_look
theorem c_Twice_look : kCon yX9_look cX9_look 3 none { frames := 2, cells := 0, slots := 0, locals := 51 } F_Twice_look := kCon_of kEnds_V (by decide +kernel) (by decide) ⟨0, 0, 0, b_Twice_look⟩
def s_Twice_together : kSx :=
  (sSeq (sCall 9 F_Twice_look (eSnoc eNil (eR 0)))
  (sRet 0 (eIf (cC 0 (eCall 9 F_Twice_topOf (eSnoc (eSnoc eNil (eR 0)) (eI 1))) (eCall 9 F_Twice_topOf (eSnoc (eSnoc eNil (eR 0)) (eI 2)))) (eK (1)) (eK (0)))))
abbrev M_Twice_together : kM := (cX9_together, yX9_together.cls, 3, { frames := 3, cells := 0, slots := 0, locals := 73 }, (some .boolean))
set_option maxRecDepth 20000 in
theorem b_Twice_together : kSt M_Twice_together 0 0 0 0 s_Twice_together :=
  (kSt_seq (kSt_call (kEs_snoc kEs_nil (kE_aload_n dX9_together_0)) dX9_together_1 c_Twice_look mv_Twice_look lm_RX9_23 ⟨rfl, rfl, by decide, by decide⟩)
  (kSt_ret (tag := 0) (kE_if (kCd_C (kE_call (kEs_snoc (kEs_snoc kEs_nil (kE_aload_n dX9_together_4)) (kE_iload_n dX9_together_5)) dX9_together_6 c_Twice_topOf mv_Twice_topOf lm_RX9_26 ⟨rfl, rfl, by decide, by decide⟩ (by decide)) (kE_call (kEs_snoc (kEs_snoc kEs_nil (kE_aload_n dX9_together_9)) (kE_iload_n dX9_together_10)) dX9_together_11 c_Twice_topOf mv_Twice_topOf lm_RX9_26 ⟨rfl, rfl, by decide, by decide⟩ (by decide)) (kJf_0 (tgt := 21) dX9_together_14 (by decide))) (kE_goto (tgt := 22) (kE_iconst dX9_together_17 ⟨by decide, by decide⟩) dX9_together_18 (by decide)) (kE_iconst dX9_together_21 ⟨by decide, by decide⟩)) ⟨fun _ => dX9_together_22, fun q => (by cases q), fun q => (by cases q)⟩))
def F_Twice_together : kFn := kF 3 kZ s_Twice_together
theorem c_Twice_together : kCon yX9_together cX9_together 3 (some .boolean) { frames := 3, cells := 0, slots := 0, locals := 73 } F_Twice_together := kCon_of kEnds_Z (by decide +kernel) (by decide) ⟨0, 0, 0, b_Twice_together⟩
def s_Twice_isBridge : kSx :=
  (sRet 0 (eIf (cAnd (cZ 1 (eAld 1 (eGet 8 1 (eGet 9 1 (eR 0))) (eI 1))) (cNot (cZ 1 (eCall 9 F_Twice_together (eSnoc (eSnoc (eSnoc eNil (eR 0)) (eAld 0 (eGet 10 0 (eGet 9 0 (eR 0))) (eI 1))) (eAld 0 (eGet 10 1 (eGet 9 0 (eR 0))) (eI 1))))))) (eK (1)) (eK (0))))
abbrev M_Twice_isBridge : kM := (cX9_isBridge, yX9_isBridge.cls, 2, { frames := 4, cells := 0, slots := 0, locals := 95 }, (some .boolean))
set_option maxRecDepth 20000 in
theorem b_Twice_isBridge : kSt M_Twice_isBridge 0 0 0 0 s_Twice_isBridge :=
  (kSt_ret (tag := 0) (kE_if (kCd_and (kCd_Z (kE_zald (kE_get (kE_get (kE_aload_n dX9_isBridge_0) lf_RX9_19 dX9_isBridge_1) lf_RX9_30 dX9_isBridge_4) (kE_iload_n dX9_isBridge_7) dX9_isBridge_8) (kZf_1 (tgt := 41) dX9_isBridge_9 (by decide))) (kCd_not (kCd_Z (kE_call (kEs_snoc (kEs_snoc (kEs_snoc kEs_nil (kE_aload_n dX9_isBridge_12)) (kE_iald (kE_get (kE_get (kE_aload_n dX9_isBridge_13) lf_RX9_15 dX9_isBridge_14) lf_RX9_36 dX9_isBridge_17) (kE_iload_n dX9_isBridge_20) dX9_isBridge_21)) (kE_iald (kE_get (kE_get (kE_aload_n dX9_isBridge_22) lf_RX9_15 dX9_isBridge_23) lf_RX9_41 dX9_isBridge_26) (kE_iload_n dX9_isBridge_29) dX9_isBridge_30)) dX9_isBridge_31 c_Twice_together mv_Twice_together lm_RX9_44 ⟨rfl, rfl, by decide, by decide⟩ (by decide)) (kZt_1 (tgt := 41) dX9_isBridge_34 (by decide))))) (kE_goto (tgt := 42) (kE_iconst dX9_isBridge_37 ⟨by decide, by decide⟩) dX9_isBridge_38 (by decide)) (kE_iconst dX9_isBridge_41 ⟨by decide, by decide⟩)) ⟨fun _ => dX9_isBridge_42, fun q => (by cases q), fun q => (by cases q)⟩)
def F_Twice_isBridge : kFn := kF 2 kZ s_Twice_isBridge
theorem c_Twice_isBridge : kCon yX9_isBridge cX9_isBridge 2 (some .boolean) { frames := 4, cells := 0, slots := 0, locals := 95 } F_Twice_isBridge := kCon_of kEnds_Z (by decide +kernel) (by decide) ⟨0, 0, 0, b_Twice_isBridge⟩
def l_Twice_bridges_1 : kSx := sFor 3 (cC 2 (eI 2) (eGet 10 4 (eGet 9 0 (eR 0))))
  (sIf (cZ 1 (eCall 9 F_Twice_isBridge (eSnoc (eSnoc eNil (eR 0)) (eAld 0 (eGet 10 2 (eGet 9 0 (eR 0))) (eI 2))))) (sInc 1 (1)) sSkip)
  (sInc 2 (1))
def s_Twice_bridges : kSx :=
  (sSeq (sLet 0 1 (eK (0)))
  (sSeq (sTrunc 2 (sSeq (sLet 0 2 (eK (0))) l_Twice_bridges_1))
  (sRet 0 (eI 1))))
abbrev M_Twice_bridges : kM := (cX9_bridges, yX9_bridges.cls, 3, { frames := 5, cells := 0, slots := 0, locals := 116 }, (some .int))
set_option maxRecDepth 20000 in
theorem b_Twice_bridges : kSt M_Twice_bridges 0 0 0 0 s_Twice_bridges :=
  (kSt_seq (kSt_let (kE_iconst dX9_bridges_0 ⟨by decide, by decide⟩) (kSet_istore_n dX9_bridges_1 (by decide)))
  (kSt_seq (kSt_trunc (kSt_seq (kSt_let (kE_iconst dX9_bridges_2 ⟨by decide, by decide⟩) (kSet_istore_n dX9_bridges_3 (by decide))) (kSt_for (pu := 34) (pt := 15) (kCd_C (kE_iload_n dX9_bridges_4) (kE_get (kE_get (kE_aload_n dX9_bridges_5) lf_RX9_15 dX9_bridges_6) lf_RX9_48 dX9_bridges_9) (kJf_2 (tgt := 40) dX9_bridges_12 (by decide))) (kSt_if (kCd_Z (kE_call (kEs_snoc (kEs_snoc kEs_nil (kE_aload_n dX9_bridges_15)) (kE_iald (kE_get (kE_get (kE_aload_n dX9_bridges_16) lf_RX9_15 dX9_bridges_17) lf_RX9_52 dX9_bridges_20) (kE_iload_n dX9_bridges_23) dX9_bridges_24)) dX9_bridges_25 c_Twice_isBridge mv_Twice_isBridge lm_RX9_55 ⟨rfl, rfl, by decide, by decide⟩ (by decide)) (kZf_1 (tgt := 34) dX9_bridges_28 (by decide))) (kSt_inc dX9_bridges_31 (by decide)) kSt_skip) (kSt_goto (tgt := 4) (kSt_inc dX9_bridges_34 (by decide)) dX9_bridges_37 (by decide)))))
  (kSt_ret (tag := 0) (kE_iload_n dX9_bridges_40) ⟨fun _ => dX9_bridges_41, fun q => (by cases q), fun q => (by cases q)⟩)))
def F_Twice_bridges : kFn := kF 1 kI s_Twice_bridges
theorem c_Twice_bridges : kCon yX9_bridges cX9_bridges 3 (some .int) { frames := 5, cells := 0, slots := 0, locals := 116 } F_Twice_bridges := kCon_of kEnds_I (by decide +kernel) (by decide) ⟨0, 0, 0, b_Twice_bridges⟩
def s_Row_empty : kSx :=
  (sSeq (sPut 5 9 (eR 0) (eK (0))) sRetV)
abbrev M_Row_empty : kM := (cX5_empty, yX5_empty.cls, 1, { frames := 0, cells := 0, slots := 0, locals := 0 }, none)
set_option maxRecDepth 20000 in
theorem b_Row_empty : kSt M_Row_empty 0 0 0 0 s_Row_empty :=
  (kSt_seq (kSt_put (kE_aload_n dX5_empty_0) (kE_iconst dX5_empty_1 ⟨by decide, by decide⟩) lp_RX5_41 dX5_empty_2) (kSt_retV dX5_empty_5))
def F_Row_empty : kFn := kF 1 kN s_Row_empty
theorem c_Row_empty : kCon yX5_empty cX5_empty 1 none { frames := 0, cells := 0, slots := 0, locals := 0 } F_Row_empty := kCon_of kEnds_V (by decide +kernel) (by decide) ⟨0, 0, 0, b_Row_empty⟩
def s_Row_nodeAt : kSx :=
  (sRet 0 (eAld 0 (eGet 5 2 (eR 0)) (eI 1)))
abbrev M_Row_nodeAt : kM := (cX5_nodeAt, yX5_nodeAt.cls, 2, { frames := 0, cells := 0, slots := 0, locals := 0 }, (some .int))
set_option maxRecDepth 20000 in
theorem b_Row_nodeAt : kSt M_Row_nodeAt 0 0 0 0 s_Row_nodeAt :=
  (kSt_ret (tag := 0) (kE_iald (kE_get (kE_aload_n dX5_nodeAt_0) lf_RX5_15 dX5_nodeAt_1) (kE_iload_n dX5_nodeAt_4) dX5_nodeAt_5) ⟨fun _ => dX5_nodeAt_6, fun q => (by cases q), fun q => (by cases q)⟩)
def F_Row_nodeAt : kFn := kF 2 kI s_Row_nodeAt
theorem c_Row_nodeAt : kCon yX5_nodeAt cX5_nodeAt 2 (some .int) { frames := 0, cells := 0, slots := 0, locals := 0 } F_Row_nodeAt := kCon_of kEnds_I (by decide +kernel) (by decide) ⟨0, 0, 0, b_Row_nodeAt⟩
def s_Row_placeOf : kSx :=
  (sRet 0 (eAld 0 (eGet 5 3 (eR 0)) (eI 1)))
abbrev M_Row_placeOf : kM := (cX5_placeOf, yX5_placeOf.cls, 2, { frames := 0, cells := 0, slots := 0, locals := 0 }, (some .int))
set_option maxRecDepth 20000 in
theorem b_Row_placeOf : kSt M_Row_placeOf 0 0 0 0 s_Row_placeOf :=
  (kSt_ret (tag := 0) (kE_iald (kE_get (kE_aload_n dX5_placeOf_0) lf_RX5_19 dX5_placeOf_1) (kE_iload_n dX5_placeOf_4) dX5_placeOf_5) ⟨fun _ => dX5_placeOf_6, fun q => (by cases q), fun q => (by cases q)⟩)
def F_Row_placeOf : kFn := kF 2 kI s_Row_placeOf
theorem c_Row_placeOf : kCon yX5_placeOf cX5_placeOf 2 (some .int) { frames := 0, cells := 0, slots := 0, locals := 0 } F_Row_placeOf := kCon_of kEnds_I (by decide +kernel) (by decide) ⟨0, 0, 0, b_Row_placeOf⟩
def s_Row_ringArc : kSx :=
  (sRet 0 (eIf (cC 2 (eI 1) (eGet 5 9 (eR 0))) (eAld 0 (eGet 5 8 (eR 0)) (eI 1)) (eK (-1))))
abbrev M_Row_ringArc : kM := (cX5_ringArc, yX5_ringArc.cls, 2, { frames := 0, cells := 0, slots := 0, locals := 0 }, (some .int))
set_option maxRecDepth 20000 in
theorem b_Row_ringArc : kSt M_Row_ringArc 0 0 0 0 s_Row_ringArc :=
  (kSt_ret (tag := 0) (kE_if (kCd_C (kE_iload_n dX5_ringArc_0) (kE_get (kE_aload_n dX5_ringArc_1) lf_RX5_41 dX5_ringArc_2) (kJf_2 (tgt := 17) dX5_ringArc_5 (by decide))) (kE_goto (tgt := 18) (kE_iald (kE_get (kE_aload_n dX5_ringArc_8) lf_RX5_34 dX5_ringArc_9) (kE_iload_n dX5_ringArc_12) dX5_ringArc_13) dX5_ringArc_14 (by decide)) (kE_iconst dX5_ringArc_17 ⟨by decide, by decide⟩)) ⟨fun _ => dX5_ringArc_18, fun q => (by cases q), fun q => (by cases q)⟩)
def F_Row_ringArc : kFn := kF 2 kI s_Row_ringArc
theorem c_Row_ringArc : kCon yX5_ringArc cX5_ringArc 2 (some .int) { frames := 0, cells := 0, slots := 0, locals := 0 } F_Row_ringArc := kCon_of kEnds_I (by decide +kernel) (by decide) ⟨0, 0, 0, b_Row_ringArc⟩
def l_Row_looseArcs_1 : kSx := sFor 3 (cC 2 (eI 2) (eGet 10 4 (eGet 5 1 (eR 0))))
  (sIf (cZ 1 (eAld 1 (eGet 5 0 (eR 0)) (eAld 0 (eGet 10 2 (eGet 5 1 (eR 0))) (eI 2)))) (sInc 1 (1)) sSkip)
  (sInc 2 (1))
def s_Row_looseArcs : kSx :=
  (sSeq (sLet 0 1 (eK (0)))
  (sSeq (sTrunc 2 (sSeq (sLet 0 2 (eK (0))) l_Row_looseArcs_1))
  (sRet 0 (eI 1))))
abbrev M_Row_looseArcs : kM := (cX5_looseArcs, yX5_looseArcs.cls, 3, { frames := 0, cells := 0, slots := 0, locals := 0 }, (some .int))
set_option maxRecDepth 20000 in
theorem b_Row_looseArcs : kSt M_Row_looseArcs 0 0 0 0 s_Row_looseArcs :=
  (kSt_seq (kSt_let (kE_iconst dX5_looseArcs_0 ⟨by decide, by decide⟩) (kSet_istore_n dX5_looseArcs_1 (by decide)))
  (kSt_seq (kSt_trunc (kSt_seq (kSt_let (kE_iconst dX5_looseArcs_2 ⟨by decide, by decide⟩) (kSet_istore_n dX5_looseArcs_3 (by decide))) (kSt_for (pu := 35) (pt := 15) (kCd_C (kE_iload_n dX5_looseArcs_4) (kE_get (kE_get (kE_aload_n dX5_looseArcs_5) lf_RX5_37 dX5_looseArcs_6) lf_RX5_45 dX5_looseArcs_9) (kJf_2 (tgt := 41) dX5_looseArcs_12 (by decide))) (kSt_if (kCd_Z (kE_zald (kE_get (kE_aload_n dX5_looseArcs_15) lf_RX5_9 dX5_looseArcs_16) (kE_iald (kE_get (kE_get (kE_aload_n dX5_looseArcs_19) lf_RX5_37 dX5_looseArcs_20) lf_RX5_50 dX5_looseArcs_23) (kE_iload_n dX5_looseArcs_26) dX5_looseArcs_27) dX5_looseArcs_28) (kZf_1 (tgt := 35) dX5_looseArcs_29 (by decide))) (kSt_inc dX5_looseArcs_32 (by decide)) kSt_skip) (kSt_goto (tgt := 4) (kSt_inc dX5_looseArcs_35 (by decide)) dX5_looseArcs_38 (by decide)))))
  (kSt_ret (tag := 0) (kE_iload_n dX5_looseArcs_41) ⟨fun _ => dX5_looseArcs_42, fun q => (by cases q), fun q => (by cases q)⟩)))
def F_Row_looseArcs : kFn := kF 1 kI s_Row_looseArcs
theorem c_Row_looseArcs : kCon yX5_looseArcs cX5_looseArcs 3 (some .int) { frames := 0, cells := 0, slots := 0, locals := 0 } F_Row_looseArcs := kCon_of kEnds_I (by decide +kernel) (by decide) ⟨0, 0, 0, b_Row_looseArcs⟩
def l_Row_holds_1 : kSx := sFor 2 (cC 2 (eI 1) (eGet 10 3 (eGet 5 1 (eR 0))))
  (sIf (cC 1 (eAld 0 (eGet 5 3 (eR 0)) (eAld 0 (eGet 5 2 (eR 0)) (eI 1))) (eI 1)) (sRet 0 (eK (0))) sSkip)
  (sInc 1 (1))
def l_Row_holds_2 : kSx := sFor 2 (cC 2 (eI 1) (eGet 10 4 (eGet 5 1 (eR 0))))
  (sTrunc 2 (sSeq (sLet 0 2 (eAld 0 (eGet 10 2 (eGet 5 1 (eR 0))) (eI 1)))
  (sIf (cAnd (cNot (cZ 1 (eAld 1 (eGet 5 0 (eR 0)) (eI 2)))) (cC 3 (eAld 0 (eGet 5 3 (eR 0)) (eAld 0 (eGet 10 0 (eGet 5 1 (eR 0))) (eI 2))) (eAld 0 (eGet 5 3 (eR 0)) (eAld 0 (eGet 10 1 (eGet 5 1 (eR 0))) (eI 2))))) (sRet 0 (eK (0))) sSkip)))
  (sInc 1 (1))
def s_Row_holds : kSx :=
  (sSeq (sTrunc 1 (sSeq (sLet 0 1 (eK (0))) l_Row_holds_1))
  (sSeq (sTrunc 1 (sSeq (sLet 0 1 (eK (0))) l_Row_holds_2))
  (sRet 0 (eK (1)))))
abbrev M_Row_holds : kM := (cX5_holds, yX5_holds.cls, 3, { frames := 0, cells := 0, slots := 0, locals := 0 }, (some .boolean))
set_option maxRecDepth 20000 in
theorem b_Row_holds : kSt M_Row_holds 0 0 0 0 s_Row_holds :=
  (kSt_seq (kSt_trunc (kSt_seq (kSt_let (kE_iconst dX5_holds_0 ⟨by decide, by decide⟩) (kSet_istore_n dX5_holds_1 (by decide))) (kSt_for (pu := 30) (pt := 13) (kCd_C (kE_iload_n dX5_holds_2) (kE_get (kE_get (kE_aload_n dX5_holds_3) lf_RX5_37 dX5_holds_4) lf_RX5_53 dX5_holds_7) (kJf_2 (tgt := 36) dX5_holds_10 (by decide))) (kSt_if (kCd_C (kE_iald (kE_get (kE_aload_n dX5_holds_13) lf_RX5_19 dX5_holds_14) (kE_iald (kE_get (kE_aload_n dX5_holds_17) lf_RX5_15 dX5_holds_18) (kE_iload_n dX5_holds_21) dX5_holds_22) dX5_holds_23) (kE_iload_n dX5_holds_24) (kJf_1 (tgt := 30) dX5_holds_25 (by decide))) (kSt_ret (tag := 0) (kE_iconst dX5_holds_28 ⟨by decide, by decide⟩) ⟨fun _ => dX5_holds_29, fun q => (by cases q), fun q => (by cases q)⟩) kSt_skip) (kSt_goto (tgt := 2) (kSt_inc dX5_holds_30 (by decide)) dX5_holds_33 (by decide)))))
  (kSt_seq (kSt_trunc (kSt_seq (kSt_let (kE_iconst dX5_holds_36 ⟨by decide, by decide⟩) (kSet_istore_n dX5_holds_37 (by decide))) (kSt_for (pu := 101) (pt := 49) (kCd_C (kE_iload_n dX5_holds_38) (kE_get (kE_get (kE_aload_n dX5_holds_39) lf_RX5_37 dX5_holds_40) lf_RX5_45 dX5_holds_43) (kJf_2 (tgt := 107) dX5_holds_46 (by decide))) (kSt_trunc (kSt_seq (kSt_let (kE_iald (kE_get (kE_get (kE_aload_n dX5_holds_49) lf_RX5_37 dX5_holds_50) lf_RX5_50 dX5_holds_53) (kE_iload_n dX5_holds_56) dX5_holds_57) (kSet_istore_n dX5_holds_58 (by decide)))
  (kSt_if (kCd_and (kCd_not (kCd_Z (kE_zald (kE_get (kE_aload_n dX5_holds_59) lf_RX5_9 dX5_holds_60) (kE_iload_n dX5_holds_63) dX5_holds_64) (kZt_1 (tgt := 101) dX5_holds_65 (by decide)))) (kCd_C (kE_iald (kE_get (kE_aload_n dX5_holds_68) lf_RX5_19 dX5_holds_69) (kE_iald (kE_get (kE_get (kE_aload_n dX5_holds_72) lf_RX5_37 dX5_holds_73) lf_RX5_55 dX5_holds_76) (kE_iload_n dX5_holds_79) dX5_holds_80) dX5_holds_81) (kE_iald (kE_get (kE_aload_n dX5_holds_82) lf_RX5_19 dX5_holds_83) (kE_iald (kE_get (kE_get (kE_aload_n dX5_holds_86) lf_RX5_37 dX5_holds_87) lf_RX5_58 dX5_holds_90) (kE_iload_n dX5_holds_93) dX5_holds_94) dX5_holds_95) (kJf_3 (tgt := 101) dX5_holds_96 (by decide)))) (kSt_ret (tag := 0) (kE_iconst dX5_holds_99 ⟨by decide, by decide⟩) ⟨fun _ => dX5_holds_100, fun q => (by cases q), fun q => (by cases q)⟩) kSt_skip))) (kSt_goto (tgt := 38) (kSt_inc dX5_holds_101 (by decide)) dX5_holds_104 (by decide)))))
  (kSt_ret (tag := 0) (kE_iconst dX5_holds_107 ⟨by decide, by decide⟩) ⟨fun _ => dX5_holds_108, fun q => (by cases q), fun q => (by cases q)⟩)))
def F_Row_holds : kFn := kF 1 kZ s_Row_holds
theorem c_Row_holds : kCon yX5_holds cX5_holds 3 (some .boolean) { frames := 0, cells := 0, slots := 0, locals := 0 } F_Row_holds := kCon_of kEnds_Z (by decide +kernel) (by decide) ⟨0, 0, 0, b_Row_holds⟩
def s_Row_nodeAdded : kSx :=
  (sSeq (sSeq (sAst 0 (eGet 5 2 (eR 0)) (eI 1) (eI 1))
  (sAst 0 (eGet 5 3 (eR 0)) (eI 1) (eI 1))) sRetV)
abbrev M_Row_nodeAdded : kM := (cX5_nodeAdded, yX5_nodeAdded.cls, 2, { frames := 0, cells := 0, slots := 0, locals := 0 }, none)
set_option maxRecDepth 20000 in
theorem b_Row_nodeAdded : kSt M_Row_nodeAdded 0 0 0 0 s_Row_nodeAdded :=
  (kSt_seq (kSt_seq (kSt_iast (kE_get (kE_aload_n dX5_nodeAdded_0) lf_RX5_15 dX5_nodeAdded_1) (kE_iload_n dX5_nodeAdded_4) (kE_iload_n dX5_nodeAdded_5) dX5_nodeAdded_6)
  (kSt_iast (kE_get (kE_aload_n dX5_nodeAdded_7) lf_RX5_19 dX5_nodeAdded_8) (kE_iload_n dX5_nodeAdded_11) (kE_iload_n dX5_nodeAdded_12) dX5_nodeAdded_13)) (kSt_retV dX5_nodeAdded_14))
def F_Row_nodeAdded : kFn := kF 2 kN s_Row_nodeAdded
theorem c_Row_nodeAdded : kCon yX5_nodeAdded cX5_nodeAdded 2 none { frames := 0, cells := 0, slots := 0, locals := 0 } F_Row_nodeAdded := kCon_of kEnds_V (by decide +kernel) (by decide) ⟨0, 0, 0, b_Row_nodeAdded⟩
def l_Row_spread_1 : kSx := sFor 9 (cC 2 (eI 8) (eAld 0 (eGet 1 1 (eR 2)) (eBin kAdd (eI 7) (eK (1)))))
  (sTrunc 9 (sSeq (sLet 0 9 (eAld 0 (eGet 1 0 (eR 2)) (eI 8)))
  (sSeq (sLet 0 10 (eAld 0 (eR 3) (eI 9)))
  (sIf (cAnd (cNot (cZ 1 (eAld 1 (eGet 5 0 (eR 0)) (eI 9)))) (cC 0 (eAld 0 (eR 4) (eI 10)) (eK (-1)))) (sSeq (sAst 0 (eR 4) (eI 10) (eBin kAdd (eAld 0 (eR 4) (eI 7)) (eK (1))))
  (sSeq (sAst 0 (eGet 5 7 (eR 0)) (eI 5) (eI 10))
  (sInc 5 (1)))) sSkip))))
  (sInc 8 (1))
def l_Row_spread_2 : kSx := sFor 7 (cAnd (cC 2 (eI 6) (eK (300))) (cC 2 (eI 6) (eI 5)))
  (sTrunc 7 (sSeq (sLet 0 7 (eAld 0 (eGet 5 7 (eR 0)) (eI 6)))
  (sTrunc 8 (sSeq (sLet 0 8 (eAld 0 (eGet 1 1 (eR 2)) (eI 7))) l_Row_spread_1))))
  (sInc 6 (1))
def s_Row_spread : kSx :=
  (sSeq (sSeq (sCallS F_Ar_fill (eSnoc (eSnoc eNil (eR 4)) (eK (-1))))
  (sSeq (sAst 0 (eR 4) (eI 1) (eK (0)))
  (sSeq (sAst 0 (eGet 5 7 (eR 0)) (eK (0)) (eI 1))
  (sSeq (sLet 0 5 (eK (1)))
  (sTrunc 6 (sSeq (sLet 0 6 (eK (0))) l_Row_spread_2)))))) sRetV)
abbrev M_Row_spread : kM := (cX5_spread, yX5_spread.cls, 11, { frames := 1, cells := 0, slots := 0, locals := 23 }, none)
set_option maxRecDepth 20000 in
theorem b_Row_spread : kSt M_Row_spread 0 0 0 0 s_Row_spread :=
  (kSt_seq (kSt_seq (kSt_callS (kEs_snoc (kEs_snoc kEs_nil (kE_aload dX5_spread_0)) (kE_iconst dX5_spread_2 ⟨by decide, by decide⟩)) dX5_spread_3 c_Ar_fill mv_Ar_fill lm_RX5_96 ⟨rfl, rfl, by decide, by decide⟩)
  (kSt_seq (kSt_iast (kE_aload dX5_spread_6) (kE_iload_n dX5_spread_8) (kE_iconst dX5_spread_9 ⟨by decide, by decide⟩) dX5_spread_10)
  (kSt_seq (kSt_iast (kE_get (kE_aload_n dX5_spread_11) lf_RX5_31 dX5_spread_12) (kE_iconst dX5_spread_15 ⟨by decide, by decide⟩) (kE_iload_n dX5_spread_16) dX5_spread_17)
  (kSt_seq (kSt_let (kE_iconst dX5_spread_18 ⟨by decide, by decide⟩) (kSet_istore dX5_spread_19 (by decide)))
  (kSt_trunc (kSt_seq (kSt_let (kE_iconst dX5_spread_21 ⟨by decide, by decide⟩) (kSet_istore dX5_spread_22 (by decide))) (kSt_for (pu := 135) (pt := 39) (kCd_and (kCd_C (kE_iload dX5_spread_24) (kE_sipush dX5_spread_26 (by rfl) ⟨by decide, by decide⟩) (kJf_2 (tgt := 141) dX5_spread_29 (by decide))) (kCd_C (kE_iload dX5_spread_32) (kE_iload dX5_spread_34) (kJf_2 (tgt := 141) dX5_spread_36 (by decide)))) (kSt_trunc (kSt_seq (kSt_let (kE_iald (kE_get (kE_aload_n dX5_spread_39) lf_RX5_31 dX5_spread_40) (kE_iload dX5_spread_43) dX5_spread_45) (kSet_istore dX5_spread_46 (by decide)))
  (kSt_trunc (kSt_seq (kSt_let (kE_iald (kE_get (kE_aload_n dX5_spread_48) lf_RX5_77 dX5_spread_49) (kE_iload dX5_spread_52) dX5_spread_54) (kSet_istore dX5_spread_55 (by decide))) (kSt_for (pu := 129) (pt := 71) (kCd_C (kE_iload dX5_spread_57) (kE_iald (kE_get (kE_aload_n dX5_spread_59) lf_RX5_77 dX5_spread_60) (kE_bin (kE_iload dX5_spread_63) (kE_iconst dX5_spread_65 ⟨by decide, by decide⟩) (kOp_add dX5_spread_66)) dX5_spread_67) (kJf_2 (tgt := 135) dX5_spread_68 (by decide))) (kSt_trunc (kSt_seq (kSt_let (kE_iald (kE_get (kE_aload_n dX5_spread_71) lf_RX5_82 dX5_spread_72) (kE_iload dX5_spread_75) dX5_spread_77) (kSet_istore dX5_spread_78 (by decide)))
  (kSt_seq (kSt_let (kE_iald (kE_aload_n dX5_spread_80) (kE_iload dX5_spread_81) dX5_spread_83) (kSet_istore dX5_spread_84 (by decide)))
  (kSt_if (kCd_and (kCd_not (kCd_Z (kE_zald (kE_get (kE_aload_n dX5_spread_86) lf_RX5_9 dX5_spread_87) (kE_iload dX5_spread_90) dX5_spread_92) (kZt_1 (tgt := 129) dX5_spread_93 (by decide)))) (kCd_C (kE_iald (kE_aload dX5_spread_96) (kE_iload dX5_spread_98) dX5_spread_100) (kE_iconst dX5_spread_101 ⟨by decide, by decide⟩) (kJf_0 (tgt := 129) dX5_spread_102 (by decide)))) (kSt_seq (kSt_iast (kE_aload dX5_spread_105) (kE_iload dX5_spread_107) (kE_bin (kE_iald (kE_aload dX5_spread_109) (kE_iload dX5_spread_111) dX5_spread_113) (kE_iconst dX5_spread_114 ⟨by decide, by decide⟩) (kOp_add dX5_spread_115)) dX5_spread_116)
  (kSt_seq (kSt_iast (kE_get (kE_aload_n dX5_spread_117) lf_RX5_31 dX5_spread_118) (kE_iload dX5_spread_121) (kE_iload dX5_spread_123) dX5_spread_125)
  (kSt_inc dX5_spread_126 (by decide)))) kSt_skip)))) (kSt_goto (tgt := 57) (kSt_inc dX5_spread_129 (by decide)) dX5_spread_132 (by decide))))))) (kSt_goto (tgt := 24) (kSt_inc dX5_spread_135 (by decide)) dX5_spread_138 (by decide))))))))) (kSt_retV dX5_spread_141))
def F_Row_spread : kFn := kF 5 kN s_Row_spread
theorem c_Row_spread : kCon yX5_spread cX5_spread 11 none { frames := 1, cells := 0, slots := 0, locals := 23 } F_Row_spread := kCon_of kEnds_V (by decide +kernel) (by decide) ⟨0, 0, 0, b_Row_spread⟩
def s_Row_reaches : kSx :=
  (sSeq (sIf (cC 4 (eAld 0 (eGet 5 3 (eR 0)) (eI 1)) (eAld 0 (eGet 5 3 (eR 0)) (eI 2))) (sRet 0 (eK (0))) sSkip)
  (sSeq (sCall 5 F_Row_spread (eSnoc (eSnoc (eSnoc (eSnoc (eSnoc eNil (eR 0)) (eI 2)) (eGet 10 7 (eGet 5 1 (eR 0)))) (eGet 10 0 (eGet 5 1 (eR 0)))) (eGet 5 5 (eR 0))))
  (sRet 0 (eIf (cC 1 (eAld 0 (eGet 5 5 (eR 0)) (eI 1)) (eK (-1))) (eK (1)) (eK (0))))))
abbrev M_Row_reaches : kM := (cX5_reaches, yX5_reaches.cls, 3, { frames := 2, cells := 0, slots := 0, locals := 53 }, (some .boolean))
set_option maxRecDepth 20000 in
theorem b_Row_reaches : kSt M_Row_reaches 0 0 0 0 s_Row_reaches :=
  (kSt_seq (kSt_if (kCd_C (kE_iald (kE_get (kE_aload_n dX5_reaches_0) lf_RX5_19 dX5_reaches_1) (kE_iload_n dX5_reaches_4) dX5_reaches_5) (kE_iald (kE_get (kE_aload_n dX5_reaches_6) lf_RX5_19 dX5_reaches_7) (kE_iload_n dX5_reaches_10) dX5_reaches_11) (kJf_4 (tgt := 17) dX5_reaches_12 (by decide))) (kSt_ret (tag := 0) (kE_iconst dX5_reaches_15 ⟨by decide, by decide⟩) ⟨fun _ => dX5_reaches_16, fun q => (by cases q), fun q => (by cases q)⟩) kSt_skip)
  (kSt_seq (kSt_call (kEs_snoc (kEs_snoc (kEs_snoc (kEs_snoc (kEs_snoc kEs_nil (kE_aload_n dX5_reaches_17)) (kE_iload_n dX5_reaches_18)) (kE_get (kE_get (kE_aload_n dX5_reaches_19) lf_RX5_37 dX5_reaches_20) lf_RX5_85 dX5_reaches_23)) (kE_get (kE_get (kE_aload_n dX5_reaches_26) lf_RX5_37 dX5_reaches_27) lf_RX5_55 dX5_reaches_30)) (kE_get (kE_aload_n dX5_reaches_33) lf_RX5_25 dX5_reaches_34)) dX5_reaches_37 c_Row_spread mv_Row_spread lm_RX5_88 ⟨rfl, rfl, by decide, by decide⟩)
  (kSt_ret (tag := 0) (kE_if (kCd_C (kE_iald (kE_get (kE_aload_n dX5_reaches_40) lf_RX5_25 dX5_reaches_41) (kE_iload_n dX5_reaches_44) dX5_reaches_45) (kE_iconst dX5_reaches_46 ⟨by decide, by decide⟩) (kJf_1 (tgt := 54) dX5_reaches_47 (by decide))) (kE_goto (tgt := 55) (kE_iconst dX5_reaches_50 ⟨by decide, by decide⟩) dX5_reaches_51 (by decide)) (kE_iconst dX5_reaches_54 ⟨by decide, by decide⟩)) ⟨fun _ => dX5_reaches_55, fun q => (by cases q), fun q => (by cases q)⟩)))
def F_Row_reaches : kFn := kF 3 kZ s_Row_reaches
theorem c_Row_reaches : kCon yX5_reaches cX5_reaches 3 (some .boolean) { frames := 2, cells := 0, slots := 0, locals := 53 } F_Row_reaches := kCon_of kEnds_Z (by decide +kernel) (by decide) ⟨0, 0, 0, b_Row_reaches⟩
def l_Row_nextOnRing_1 : kSx := sFor 5 (cC 2 (eI 4) (eAld 0 (eGet 1 1 (eR 3)) (eBin kAdd (eI 1) (eK (1)))))
  (sTrunc 5 (sSeq (sLet 0 5 (eAld 0 (eGet 1 0 (eR 3)) (eI 4)))
  (sIf (cAnd (cNot (cZ 1 (eAld 1 (eGet 5 0 (eR 0)) (eI 5)))) (cC 0 (eAld 0 (eGet 5 5 (eR 0)) (eAld 0 (eGet 10 1 (eGet 5 1 (eR 0))) (eI 5))) (eI 2))) (sRet 0 (eI 5)) sSkip)))
  (sInc 4 (1))
def s_Row_nextOnRing : kSx :=
  (sSeq (sLet 1 3 (eGet 10 6 (eGet 5 1 (eR 0))))
  (sSeq (sTrunc 4 (sSeq (sLet 0 4 (eAld 0 (eGet 1 1 (eR 3)) (eI 1))) l_Row_nextOnRing_1))
  (sRet 0 (eK (-1)))))
abbrev M_Row_nextOnRing : kM := (cX5_nextOnRing, yX5_nextOnRing.cls, 6, { frames := 0, cells := 0, slots := 0, locals := 0 }, (some .int))
set_option maxRecDepth 20000 in
theorem b_Row_nextOnRing : kSt M_Row_nextOnRing 0 0 0 0 s_Row_nextOnRing :=
  (kSt_seq (kSt_let (kE_get (kE_get (kE_aload_n dX5_nextOnRing_0) lf_RX5_37 dX5_nextOnRing_1) lf_RX5_73 dX5_nextOnRing_4) (kSet_astore_n dX5_nextOnRing_7 (by decide)))
  (kSt_seq (kSt_trunc (kSt_seq (kSt_let (kE_iald (kE_get (kE_aload_n dX5_nextOnRing_8) lf_RX5_77 dX5_nextOnRing_9) (kE_iload_n dX5_nextOnRing_12) dX5_nextOnRing_13) (kSet_istore dX5_nextOnRing_14 (by decide))) (kSt_for (pu := 70) (pt := 29) (kCd_C (kE_iload dX5_nextOnRing_16) (kE_iald (kE_get (kE_aload_n dX5_nextOnRing_18) lf_RX5_77 dX5_nextOnRing_19) (kE_bin (kE_iload_n dX5_nextOnRing_22) (kE_iconst dX5_nextOnRing_23 ⟨by decide, by decide⟩) (kOp_add dX5_nextOnRing_24)) dX5_nextOnRing_25) (kJf_2 (tgt := 76) dX5_nextOnRing_26 (by decide))) (kSt_trunc (kSt_seq (kSt_let (kE_iald (kE_get (kE_aload_n dX5_nextOnRing_29) lf_RX5_82 dX5_nextOnRing_30) (kE_iload dX5_nextOnRing_33) dX5_nextOnRing_35) (kSet_istore dX5_nextOnRing_36 (by decide)))
  (kSt_if (kCd_and (kCd_not (kCd_Z (kE_zald (kE_get (kE_aload_n dX5_nextOnRing_38) lf_RX5_9 dX5_nextOnRing_39) (kE_iload dX5_nextOnRing_42) dX5_nextOnRing_44) (kZt_1 (tgt := 70) dX5_nextOnRing_45 (by decide)))) (kCd_C (kE_iald (kE_get (kE_aload_n dX5_nextOnRing_48) lf_RX5_25 dX5_nextOnRing_49) (kE_iald (kE_get (kE_get (kE_aload_n dX5_nextOnRing_52) lf_RX5_37 dX5_nextOnRing_53) lf_RX5_58 dX5_nextOnRing_56) (kE_iload dX5_nextOnRing_59) dX5_nextOnRing_61) dX5_nextOnRing_62) (kE_iload_n dX5_nextOnRing_63) (kJf_0 (tgt := 70) dX5_nextOnRing_64 (by decide)))) (kSt_ret (tag := 0) (kE_iload dX5_nextOnRing_67) ⟨fun _ => dX5_nextOnRing_69, fun q => (by cases q), fun q => (by cases q)⟩) kSt_skip))) (kSt_goto (tgt := 16) (kSt_inc dX5_nextOnRing_70 (by decide)) dX5_nextOnRing_73 (by decide)))))
  (kSt_ret (tag := 0) (kE_iconst dX5_nextOnRing_76 ⟨by decide, by decide⟩) ⟨fun _ => dX5_nextOnRing_77, fun q => (by cases q), fun q => (by cases q)⟩)))
def F_Row_nextOnRing : kFn := kF 3 kI s_Row_nextOnRing
theorem c_Row_nextOnRing : kCon yX5_nextOnRing cX5_nextOnRing 6 (some .int) { frames := 0, cells := 0, slots := 0, locals := 0 } F_Row_nextOnRing := kCon_of kEnds_I (by decide +kernel) (by decide) ⟨0, 0, 0, b_Row_nextOnRing⟩
def l_Row_tellRing_1 : kSx := sFor 5 (cZ 4 (eI 4))
  (sTrunc 5 (sSeq (sLet 0 5 (eCall 5 F_Row_nextOnRing (eSnoc (eSnoc (eSnoc eNil (eR 0)) (eI 3)) (eBin kSub (eI 4) (eK (1))))))
  (sSeq (sIf (cC 0 (eI 5) (eK (-1))) (sRet 0 (eK (1))) sSkip)
  (sSeq (sAst 0 (eGet 5 8 (eR 0)) (eGet 5 9 (eR 0)) (eI 5))
  (sSeq (sPutOp 5 9 (eR 0) kAdd (eK (1)))
  (sLet 0 3 (eAld 0 (eGet 10 1 (eGet 5 1 (eR 0))) (eI 5))))))))
  (sInc 4 (-1))
def s_Row_tellRing : kSx :=
  (sSeq (sIf (cC 0 (eI 1) (eI 2)) (sSeq (sPut 5 9 (eR 0) (eK (0)))
  (sRet 0 (eK (1)))) sSkip)
  (sSeq (sIf (cNot (cZ 1 (eCall 5 F_Row_reaches (eSnoc (eSnoc (eSnoc eNil (eR 0)) (eI 2)) (eI 1))))) (sRet 0 (eK (0))) sSkip)
  (sSeq (sLet 0 3 (eI 2))
  (sSeq (sPut 5 9 (eR 0) (eK (0)))
  (sSeq (sTrunc 4 (sSeq (sLet 0 4 (eAld 0 (eGet 5 5 (eR 0)) (eI 2))) l_Row_tellRing_1))
  (sRet 0 (eK (1))))))))
abbrev M_Row_tellRing : kM := (cX5_tellRing, yX5_tellRing.cls, 6, { frames := 3, cells := 0, slots := 0, locals := 75 }, (some .boolean))
set_option maxRecDepth 20000 in
theorem b_Row_tellRing : kSt M_Row_tellRing 0 0 0 0 s_Row_tellRing :=
  (kSt_seq (kSt_if (kCd_C (kE_iload_n dX5_tellRing_0) (kE_iload_n dX5_tellRing_1) (kJf_0 (tgt := 12) dX5_tellRing_2 (by decide))) (kSt_seq (kSt_put (kE_aload_n dX5_tellRing_5) (kE_iconst dX5_tellRing_6 ⟨by decide, by decide⟩) lp_RX5_41 dX5_tellRing_7)
  (kSt_ret (tag := 0) (kE_iconst dX5_tellRing_10 ⟨by decide, by decide⟩) ⟨fun _ => dX5_tellRing_11, fun q => (by cases q), fun q => (by cases q)⟩)) kSt_skip)
  (kSt_seq (kSt_if (kCd_not (kCd_Z (kE_call (kEs_snoc (kEs_snoc (kEs_snoc kEs_nil (kE_aload_n dX5_tellRing_12)) (kE_iload_n dX5_tellRing_13)) (kE_iload_n dX5_tellRing_14)) dX5_tellRing_15 c_Row_reaches mv_Row_reaches lm_RX5_61 ⟨rfl, rfl, by decide, by decide⟩ (by decide)) (kZt_1 (tgt := 23) dX5_tellRing_18 (by decide)))) (kSt_ret (tag := 0) (kE_iconst dX5_tellRing_21 ⟨by decide, by decide⟩) ⟨fun _ => dX5_tellRing_22, fun q => (by cases q), fun q => (by cases q)⟩) kSt_skip)
  (kSt_seq (kSt_let (kE_iload_n dX5_tellRing_23) (kSet_istore_n dX5_tellRing_24 (by decide)))
  (kSt_seq (kSt_put (kE_aload_n dX5_tellRing_25) (kE_iconst dX5_tellRing_26 ⟨by decide, by decide⟩) lp_RX5_41 dX5_tellRing_27)
  (kSt_seq (kSt_trunc (kSt_seq (kSt_let (kE_iald (kE_get (kE_aload_n dX5_tellRing_30) lf_RX5_25 dX5_tellRing_31) (kE_iload_n dX5_tellRing_34) dX5_tellRing_35) (kSet_istore dX5_tellRing_36 (by decide))) (kSt_for (pu := 94) (pt := 43) (kCd_Z (kE_iload dX5_tellRing_38) (kZf_4 (tgt := 100) dX5_tellRing_40 (by decide))) (kSt_trunc (kSt_seq (kSt_let (kE_call (kEs_snoc (kEs_snoc (kEs_snoc kEs_nil (kE_aload_n dX5_tellRing_43)) (kE_iload_n dX5_tellRing_44)) (kE_bin (kE_iload dX5_tellRing_45) (kE_iconst dX5_tellRing_47 ⟨by decide, by decide⟩) (kOp_sub dX5_tellRing_48))) dX5_tellRing_49 c_Row_nextOnRing mv_Row_nextOnRing lm_RX5_65 ⟨rfl, rfl, by decide, by decide⟩ (by decide)) (kSet_istore dX5_tellRing_52 (by decide)))
  (kSt_seq (kSt_if (kCd_C (kE_iload dX5_tellRing_54) (kE_iconst dX5_tellRing_56 ⟨by decide, by decide⟩) (kJf_0 (tgt := 62) dX5_tellRing_57 (by decide))) (kSt_ret (tag := 0) (kE_iconst dX5_tellRing_60 ⟨by decide, by decide⟩) ⟨fun _ => dX5_tellRing_61, fun q => (by cases q), fun q => (by cases q)⟩) kSt_skip)
  (kSt_seq (kSt_iast (kE_get (kE_aload_n dX5_tellRing_62) lf_RX5_34 dX5_tellRing_63) (kE_get (kE_aload_n dX5_tellRing_66) lf_RX5_41 dX5_tellRing_67) (kE_iload dX5_tellRing_70) dX5_tellRing_72)
  (kSt_seq (kSt_putOp (kE_aload_n dX5_tellRing_73) dX5_tellRing_74 lf_RX5_41 dX5_tellRing_75 (kE_iconst dX5_tellRing_78 ⟨by decide, by decide⟩) (kOp_add dX5_tellRing_79) lp_RX5_41 dX5_tellRing_80)
  (kSt_let (kE_iald (kE_get (kE_get (kE_aload_n dX5_tellRing_83) lf_RX5_37 dX5_tellRing_84) lf_RX5_58 dX5_tellRing_87) (kE_iload dX5_tellRing_90) dX5_tellRing_92) (kSet_istore_n dX5_tellRing_93 (by decide)))))))) (kSt_goto (tgt := 38) (kSt_inc dX5_tellRing_94 (by decide)) dX5_tellRing_97 (by decide)))))
  (kSt_ret (tag := 0) (kE_iconst dX5_tellRing_100 ⟨by decide, by decide⟩) ⟨fun _ => dX5_tellRing_101, fun q => (by cases q), fun q => (by cases q)⟩))))))
def F_Row_tellRing : kFn := kF 3 kZ s_Row_tellRing
theorem c_Row_tellRing : kCon yX5_tellRing cX5_tellRing 6 (some .boolean) { frames := 3, cells := 0, slots := 0, locals := 75 } F_Row_tellRing := kCon_of kEnds_Z (by decide +kernel) (by decide) ⟨0, 0, 0, b_Row_tellRing⟩
def l_Row_pick_1 : kSx := sFor 7 (cAnd (cC 5 (eI 6) (eI 2)) (cC 2 (eI 5) (eK (300))))
  (sIf (cC 1 (eAld 0 (eR 3) (eAld 0 (eGet 5 2 (eR 0)) (eI 6))) (eK (-1))) (sSeq (sAst 0 (eGet 5 6 (eR 0)) (eI 5) (eAld 0 (eGet 5 2 (eR 0)) (eI 6)))
  (sInc 5 (1))) sSkip)
  (sInc 6 (1))
def s_Row_pick : kSx :=
  (sSeq (sLet 0 5 (eI 4))
  (sSeq (sTrunc 6 (sSeq (sLet 0 6 (eI 1)) l_Row_pick_1))
  (sRet 0 (eI 5))))
abbrev M_Row_pick : kM := (cX5_pick, yX5_pick.cls, 7, { frames := 0, cells := 0, slots := 0, locals := 0 }, (some .int))
set_option maxRecDepth 20000 in
theorem b_Row_pick : kSt M_Row_pick 0 0 0 0 s_Row_pick :=
  (kSt_seq (kSt_let (kE_iload dX5_pick_0) (kSet_istore dX5_pick_2 (by decide)))
  (kSt_seq (kSt_trunc (kSt_seq (kSt_let (kE_iload_n dX5_pick_4) (kSet_istore dX5_pick_5 (by decide))) (kSt_for (pu := 51) (pt := 21) (kCd_and (kCd_C (kE_iload dX5_pick_7) (kE_iload_n dX5_pick_9) (kJf_5 (tgt := 57) dX5_pick_10 (by decide))) (kCd_C (kE_iload dX5_pick_13) (kE_sipush dX5_pick_15 (by rfl) ⟨by decide, by decide⟩) (kJf_2 (tgt := 57) dX5_pick_18 (by decide)))) (kSt_if (kCd_C (kE_iald (kE_aload_n dX5_pick_21) (kE_iald (kE_get (kE_aload_n dX5_pick_22) lf_RX5_15 dX5_pick_23) (kE_iload dX5_pick_26) dX5_pick_28) dX5_pick_29) (kE_iconst dX5_pick_30 ⟨by decide, by decide⟩) (kJf_1 (tgt := 51) dX5_pick_31 (by decide))) (kSt_seq (kSt_iast (kE_get (kE_aload_n dX5_pick_34) lf_RX5_28 dX5_pick_35) (kE_iload dX5_pick_38) (kE_iald (kE_get (kE_aload_n dX5_pick_40) lf_RX5_15 dX5_pick_41) (kE_iload dX5_pick_44) dX5_pick_46) dX5_pick_47)
  (kSt_inc dX5_pick_48 (by decide))) kSt_skip) (kSt_goto (tgt := 7) (kSt_inc dX5_pick_51 (by decide)) dX5_pick_54 (by decide)))))
  (kSt_ret (tag := 0) (kE_iload dX5_pick_57) ⟨fun _ => dX5_pick_59, fun q => (by cases q), fun q => (by cases q)⟩)))
def F_Row_pick : kFn := kF 5 kI s_Row_pick
theorem c_Row_pick : kCon yX5_pick cX5_pick 7 (some .int) { frames := 0, cells := 0, slots := 0, locals := 0 } F_Row_pick := kCon_of kEnds_I (by decide +kernel) (by decide) ⟨0, 0, 0, b_Row_pick⟩
def l_Row_setRight_1 : kSx := sFor 8 (cAnd (cC 5 (eI 7) (eI 4)) (cC 2 (eI 6) (eI 5)))
  (sTrunc 8 (sSeq (sLet 0 8 (eAld 0 (eGet 5 2 (eR 0)) (eI 7)))
  (sIf (cOr (cC 1 (eAld 0 (eGet 5 5 (eR 0)) (eI 8)) (eK (-1))) (cC 1 (eAld 0 (eGet 5 4 (eR 0)) (eI 8)) (eK (-1)))) (sSeq (sAst 0 (eGet 5 2 (eR 0)) (eI 7) (eAld 0 (eGet 5 6 (eR 0)) (eI 6)))
  (sSeq (sAst 0 (eGet 5 3 (eR 0)) (eAld 0 (eGet 5 6 (eR 0)) (eI 6)) (eI 7))
  (sInc 6 (1)))) sSkip)))
  (sInc 7 (1))
def s_Row_setRight : kSx :=
  (sSeq (sSeq (sLet 0 3 (eAld 0 (eGet 5 3 (eR 0)) (eI 2)))
  (sSeq (sLet 0 4 (eAld 0 (eGet 5 3 (eR 0)) (eI 1)))
  (sSeq (sIf (cC 2 (eI 4) (eI 3)) sRetV sSkip)
  (sSeq (sCall 5 F_Row_spread (eSnoc (eSnoc (eSnoc (eSnoc (eSnoc eNil (eR 0)) (eI 2)) (eGet 10 6 (eGet 5 1 (eR 0)))) (eGet 10 1 (eGet 5 1 (eR 0)))) (eGet 5 4 (eR 0))))
  (sSeq (sCall 5 F_Row_spread (eSnoc (eSnoc (eSnoc (eSnoc (eSnoc eNil (eR 0)) (eI 1)) (eGet 10 7 (eGet 5 1 (eR 0)))) (eGet 10 0 (eGet 5 1 (eR 0)))) (eGet 5 5 (eR 0))))
  (sSeq (sLet 0 5 (eCall 5 F_Row_pick (eSnoc (eSnoc (eSnoc (eSnoc (eSnoc eNil (eR 0)) (eI 3)) (eI 4)) (eGet 5 5 (eR 0))) (eK (0)))))
  (sSeq (sLet 0 5 (eCall 5 F_Row_pick (eSnoc (eSnoc (eSnoc (eSnoc (eSnoc eNil (eR 0)) (eI 3)) (eI 4)) (eGet 5 4 (eR 0))) (eI 5))))
  (sSeq (sLet 0 6 (eK (0)))
  (sTrunc 7 (sSeq (sLet 0 7 (eI 3)) l_Row_setRight_1)))))))))) sRetV)
abbrev M_Row_setRight : kM := (cX5_setRight, yX5_setRight.cls, 9, { frames := 2, cells := 0, slots := 0, locals := 53 }, none)
set_option maxRecDepth 20000 in
theorem b_Row_setRight : kSt M_Row_setRight 0 0 0 0 s_Row_setRight :=
  (kSt_seq (kSt_seq (kSt_let (kE_iald (kE_get (kE_aload_n dX5_setRight_0) lf_RX5_19 dX5_setRight_1) (kE_iload_n dX5_setRight_4) dX5_setRight_5) (kSet_istore_n dX5_setRight_6 (by decide)))
  (kSt_seq (kSt_let (kE_iald (kE_get (kE_aload_n dX5_setRight_7) lf_RX5_19 dX5_setRight_8) (kE_iload_n dX5_setRight_11) dX5_setRight_12) (kSet_istore dX5_setRight_13 (by decide)))
  (kSt_seq (kSt_if (kCd_C (kE_iload dX5_setRight_15) (kE_iload_n dX5_setRight_17) (kJf_2 (tgt := 22) dX5_setRight_18 (by decide))) (kSt_retV dX5_setRight_21) kSt_skip)
  (kSt_seq (kSt_call (kEs_snoc (kEs_snoc (kEs_snoc (kEs_snoc (kEs_snoc kEs_nil (kE_aload_n dX5_setRight_22)) (kE_iload_n dX5_setRight_23)) (kE_get (kE_get (kE_aload_n dX5_setRight_24) lf_RX5_37 dX5_setRight_25) lf_RX5_73 dX5_setRight_28)) (kE_get (kE_get (kE_aload_n dX5_setRight_31) lf_RX5_37 dX5_setRight_32) lf_RX5_58 dX5_setRight_35)) (kE_get (kE_aload_n dX5_setRight_38) lf_RX5_22 dX5_setRight_39)) dX5_setRight_42 c_Row_spread mv_Row_spread lm_RX5_88 ⟨rfl, rfl, by decide, by decide⟩)
  (kSt_seq (kSt_call (kEs_snoc (kEs_snoc (kEs_snoc (kEs_snoc (kEs_snoc kEs_nil (kE_aload_n dX5_setRight_45)) (kE_iload_n dX5_setRight_46)) (kE_get (kE_get (kE_aload_n dX5_setRight_47) lf_RX5_37 dX5_setRight_48) lf_RX5_85 dX5_setRight_51)) (kE_get (kE_get (kE_aload_n dX5_setRight_54) lf_RX5_37 dX5_setRight_55) lf_RX5_55 dX5_setRight_58)) (kE_get (kE_aload_n dX5_setRight_61) lf_RX5_25 dX5_setRight_62)) dX5_setRight_65 c_Row_spread mv_Row_spread lm_RX5_88 ⟨rfl, rfl, by decide, by decide⟩)
  (kSt_seq (kSt_let (kE_call (kEs_snoc (kEs_snoc (kEs_snoc (kEs_snoc (kEs_snoc kEs_nil (kE_aload_n dX5_setRight_68)) (kE_iload_n dX5_setRight_69)) (kE_iload dX5_setRight_70)) (kE_get (kE_aload_n dX5_setRight_72) lf_RX5_25 dX5_setRight_73)) (kE_iconst dX5_setRight_76 ⟨by decide, by decide⟩)) dX5_setRight_77 c_Row_pick mv_Row_pick lm_RX5_92 ⟨rfl, rfl, by decide, by decide⟩ (by decide)) (kSet_istore dX5_setRight_80 (by decide)))
  (kSt_seq (kSt_let (kE_call (kEs_snoc (kEs_snoc (kEs_snoc (kEs_snoc (kEs_snoc kEs_nil (kE_aload_n dX5_setRight_82)) (kE_iload_n dX5_setRight_83)) (kE_iload dX5_setRight_84)) (kE_get (kE_aload_n dX5_setRight_86) lf_RX5_22 dX5_setRight_87)) (kE_iload dX5_setRight_90)) dX5_setRight_92 c_Row_pick mv_Row_pick lm_RX5_92 ⟨rfl, rfl, by decide, by decide⟩ (by decide)) (kSet_istore dX5_setRight_95 (by decide)))
  (kSt_seq (kSt_let (kE_iconst dX5_setRight_97 ⟨by decide, by decide⟩) (kSet_istore dX5_setRight_98 (by decide)))
  (kSt_trunc (kSt_seq (kSt_let (kE_iload_n dX5_setRight_100) (kSet_istore dX5_setRight_101 (by decide))) (kSt_for (pu := 179) (pt := 117) (kCd_and (kCd_C (kE_iload dX5_setRight_103) (kE_iload dX5_setRight_105) (kJf_5 (tgt := 185) dX5_setRight_107 (by decide))) (kCd_C (kE_iload dX5_setRight_110) (kE_iload dX5_setRight_112) (kJf_2 (tgt := 185) dX5_setRight_114 (by decide)))) (kSt_trunc (kSt_seq (kSt_let (kE_iald (kE_get (kE_aload_n dX5_setRight_117) lf_RX5_15 dX5_setRight_118) (kE_iload dX5_setRight_121) dX5_setRight_123) (kSet_istore dX5_setRight_124 (by decide)))
  (kSt_if (kCd_or (kCd_C (kE_iald (kE_get (kE_aload_n dX5_setRight_126) lf_RX5_25 dX5_setRight_127) (kE_iload dX5_setRight_130) dX5_setRight_132) (kE_iconst dX5_setRight_133 ⟨by decide, by decide⟩) (kJt_1 (tgt := 148) dX5_setRight_134 (by decide))) (kCd_C (kE_iald (kE_get (kE_aload_n dX5_setRight_137) lf_RX5_22 dX5_setRight_138) (kE_iload dX5_setRight_141) dX5_setRight_143) (kE_iconst dX5_setRight_144 ⟨by decide, by decide⟩) (kJf_1 (tgt := 179) dX5_setRight_145 (by decide)))) (kSt_seq (kSt_iast (kE_get (kE_aload_n dX5_setRight_148) lf_RX5_15 dX5_setRight_149) (kE_iload dX5_setRight_152) (kE_iald (kE_get (kE_aload_n dX5_setRight_154) lf_RX5_28 dX5_setRight_155) (kE_iload dX5_setRight_158) dX5_setRight_160) dX5_setRight_161)
  (kSt_seq (kSt_iast (kE_get (kE_aload_n dX5_setRight_162) lf_RX5_19 dX5_setRight_163) (kE_iald (kE_get (kE_aload_n dX5_setRight_166) lf_RX5_28 dX5_setRight_167) (kE_iload dX5_setRight_170) dX5_setRight_172) (kE_iload dX5_setRight_173) dX5_setRight_175)
  (kSt_inc dX5_setRight_176 (by decide)))) kSt_skip))) (kSt_goto (tgt := 103) (kSt_inc dX5_setRight_179 (by decide)) dX5_setRight_182 (by decide))))))))))))) (kSt_retV dX5_setRight_185))
def F_Row_setRight : kFn := kF 3 kN s_Row_setRight
theorem c_Row_setRight : kCon yX5_setRight cX5_setRight 9 none { frames := 2, cells := 0, slots := 0, locals := 53 } F_Row_setRight := kCon_of kEnds_V (by decide +kernel) (by decide) ⟨0, 0, 0, b_Row_setRight⟩
def s_Row_arcAdded : kSx :=
  (sSeq (sSeq (sAst 1 (eGet 5 0 (eR 0)) (eI 1) (eI 2))
  (sIf (cNot (cZ 1 (eI 2))) (sCall 5 F_Row_setRight (eSnoc (eSnoc (eSnoc eNil (eR 0)) (eAld 0 (eGet 10 0 (eGet 5 1 (eR 0))) (eI 1))) (eAld 0 (eGet 10 1 (eGet 5 1 (eR 0))) (eI 1)))) sSkip)) sRetV)
abbrev M_Row_arcAdded : kM := (cX5_arcAdded, yX5_arcAdded.cls, 3, { frames := 3, cells := 0, slots := 0, locals := 81 }, none)
set_option maxRecDepth 20000 in
theorem b_Row_arcAdded : kSt M_Row_arcAdded 0 0 0 0 s_Row_arcAdded :=
  (kSt_seq (kSt_seq (kSt_zast (kE_get (kE_aload_n dX5_arcAdded_0) lf_RX5_9 dX5_arcAdded_1) (kE_iload_n dX5_arcAdded_4) (kE_iload_n dX5_arcAdded_5) dX5_arcAdded_6)
  (kSt_if (kCd_not (kCd_Z (kE_iload_n dX5_arcAdded_7) (kZt_1 (tgt := 33) dX5_arcAdded_8 (by decide)))) (kSt_call (kEs_snoc (kEs_snoc (kEs_snoc kEs_nil (kE_aload_n dX5_arcAdded_11)) (kE_iald (kE_get (kE_get (kE_aload_n dX5_arcAdded_12) lf_RX5_37 dX5_arcAdded_13) lf_RX5_55 dX5_arcAdded_16) (kE_iload_n dX5_arcAdded_19) dX5_arcAdded_20)) (kE_iald (kE_get (kE_get (kE_aload_n dX5_arcAdded_21) lf_RX5_37 dX5_arcAdded_22) lf_RX5_58 dX5_arcAdded_25) (kE_iload_n dX5_arcAdded_28) dX5_arcAdded_29)) dX5_arcAdded_30 c_Row_setRight mv_Row_setRight lm_RX5_69 ⟨rfl, rfl, by decide, by decide⟩) kSt_skip)) (kSt_retV dX5_arcAdded_33))
def F_Row_arcAdded : kFn := kF 3 kN s_Row_arcAdded
theorem c_Row_arcAdded : kCon yX5_arcAdded cX5_arcAdded 3 none { frames := 3, cells := 0, slots := 0, locals := 81 } F_Row_arcAdded := kCon_of kEnds_V (by decide +kernel) (by decide) ⟨0, 0, 0, b_Row_arcAdded⟩
def l_Row_arcRemoved_1 : kSx := sFor 3 (cC 2 (eI 2) (eGet 10 4 (eGet 5 1 (eR 0))))
  (sTrunc 3 (sSeq (sLet 0 3 (eAld 0 (eGet 10 2 (eGet 5 1 (eR 0))) (eI 2)))
  (sSeq (sLet 0 4 (eAld 0 (eGet 10 0 (eGet 5 1 (eR 0))) (eI 3)))
  (sSeq (sLet 0 5 (eAld 0 (eGet 10 1 (eGet 5 1 (eR 0))) (eI 3)))
  (sIf (cAnd (cAnd (cZ 1 (eAld 1 (eGet 5 0 (eR 0)) (eI 3))) (cC 1 (eI 4) (eI 5))) (cNot (cZ 1 (eCall 5 F_Row_reaches (eSnoc (eSnoc (eSnoc eNil (eR 0)) (eI 5)) (eI 4)))))) (sSeq (sAst 1 (eGet 5 0 (eR 0)) (eI 3) (eK (0)))
  (sCall 5 F_Row_setRight (eSnoc (eSnoc (eSnoc eNil (eR 0)) (eI 4)) (eI 5)))) sSkip)))))
  (sInc 2 (1))
def s_Row_arcRemoved : kSx :=
  (sSeq (sSeq (sIf (cZ 1 (eAld 1 (eGet 5 0 (eR 0)) (eI 1))) sRetV sSkip)
  (sTrunc 2 (sSeq (sLet 0 2 (eK (0))) l_Row_arcRemoved_1))) sRetV)
abbrev M_Row_arcRemoved : kM := (cX5_arcRemoved, yX5_arcRemoved.cls, 6, { frames := 3, cells := 0, slots := 0, locals := 81 }, none)
set_option maxRecDepth 20000 in
theorem b_Row_arcRemoved : kSt M_Row_arcRemoved 0 0 0 0 s_Row_arcRemoved :=
  (kSt_seq (kSt_seq (kSt_if (kCd_Z (kE_zald (kE_get (kE_aload_n dX5_arcRemoved_0) lf_RX5_9 dX5_arcRemoved_1) (kE_iload_n dX5_arcRemoved_4) dX5_arcRemoved_5) (kZf_1 (tgt := 10) dX5_arcRemoved_6 (by decide))) (kSt_retV dX5_arcRemoved_9) kSt_skip)
  (kSt_trunc (kSt_seq (kSt_let (kE_iconst dX5_arcRemoved_10 ⟨by decide, by decide⟩) (kSet_istore_n dX5_arcRemoved_11 (by decide))) (kSt_for (pu := 97) (pt := 23) (kCd_C (kE_iload_n dX5_arcRemoved_12) (kE_get (kE_get (kE_aload_n dX5_arcRemoved_13) lf_RX5_37 dX5_arcRemoved_14) lf_RX5_45 dX5_arcRemoved_17) (kJf_2 (tgt := 103) dX5_arcRemoved_20 (by decide))) (kSt_trunc (kSt_seq (kSt_let (kE_iald (kE_get (kE_get (kE_aload_n dX5_arcRemoved_23) lf_RX5_37 dX5_arcRemoved_24) lf_RX5_50 dX5_arcRemoved_27) (kE_iload_n dX5_arcRemoved_30) dX5_arcRemoved_31) (kSet_istore_n dX5_arcRemoved_32 (by decide)))
  (kSt_seq (kSt_let (kE_iald (kE_get (kE_get (kE_aload_n dX5_arcRemoved_33) lf_RX5_37 dX5_arcRemoved_34) lf_RX5_55 dX5_arcRemoved_37) (kE_iload_n dX5_arcRemoved_40) dX5_arcRemoved_41) (kSet_istore dX5_arcRemoved_42 (by decide)))
  (kSt_seq (kSt_let (kE_iald (kE_get (kE_get (kE_aload_n dX5_arcRemoved_44) lf_RX5_37 dX5_arcRemoved_45) lf_RX5_58 dX5_arcRemoved_48) (kE_iload_n dX5_arcRemoved_51) dX5_arcRemoved_52) (kSet_istore dX5_arcRemoved_53 (by decide)))
  (kSt_if (kCd_and (kCd_and (kCd_Z (kE_zald (kE_get (kE_aload_n dX5_arcRemoved_55) lf_RX5_9 dX5_arcRemoved_56) (kE_iload_n dX5_arcRemoved_59) dX5_arcRemoved_60) (kZf_1 (tgt := 97) dX5_arcRemoved_61 (by decide))) (kCd_C (kE_iload dX5_arcRemoved_64) (kE_iload dX5_arcRemoved_66) (kJf_1 (tgt := 97) dX5_arcRemoved_68 (by decide)))) (kCd_not (kCd_Z (kE_call (kEs_snoc (kEs_snoc (kEs_snoc kEs_nil (kE_aload_n dX5_arcRemoved_71)) (kE_iload dX5_arcRemoved_72)) (kE_iload dX5_arcRemoved_74)) dX5_arcRemoved_76 c_Row_reaches mv_Row_reaches lm_RX5_61 ⟨rfl, rfl, by decide, by decide⟩ (by decide)) (kZt_1 (tgt := 97) dX5_arcRemoved_79 (by decide))))) (kSt_seq (kSt_zast (kE_get (kE_aload_n dX5_arcRemoved_82) lf_RX5_9 dX5_arcRemoved_83) (kE_iload_n dX5_arcRemoved_86) (kE_iconst dX5_arcRemoved_87 ⟨by decide, by decide⟩) dX5_arcRemoved_88)
  (kSt_call (kEs_snoc (kEs_snoc (kEs_snoc kEs_nil (kE_aload_n dX5_arcRemoved_89)) (kE_iload dX5_arcRemoved_90)) (kE_iload dX5_arcRemoved_92)) dX5_arcRemoved_94 c_Row_setRight mv_Row_setRight lm_RX5_69 ⟨rfl, rfl, by decide, by decide⟩)) kSt_skip))))) (kSt_goto (tgt := 12) (kSt_inc dX5_arcRemoved_97 (by decide)) dX5_arcRemoved_100 (by decide)))))) (kSt_retV dX5_arcRemoved_103))
def F_Row_arcRemoved : kFn := kF 2 kN s_Row_arcRemoved
theorem c_Row_arcRemoved : kCon yX5_arcRemoved cX5_arcRemoved 6 none { frames := 3, cells := 0, slots := 0, locals := 81 } F_Row_arcRemoved := kCon_of kEnds_V (by decide +kernel) (by decide) ⟨0, 0, 0, b_Row_arcRemoved⟩
def l_Strong_leave_1 : kSx := sFor 5 (cAnd (cC 2 (eI 4) (eK (1500))) (cZ 4 (eI 3)))
  (sTrunc 5 (sSeq (sLet 0 5 (eAld 0 (eGet 7 3 (eR 0)) (eBin kSub (eI 3) (eK (1)))))
  (sIf (cC 2 (eAld 0 (eGet 7 4 (eR 0)) (eI 5)) (eAld 0 (eGet 1 1 (eR 2)) (eBin kAdd (eI 5) (eK (1))))) (sTrunc 6 (sSeq (sLet 0 6 (eAld 0 (eGet 10 1 (eGet 7 0 (eR 0))) (eAld 0 (eGet 1 0 (eR 2)) (eAld 0 (eGet 7 4 (eR 0)) (eI 5)))))
  (sSeq (sAstOp (eGet 7 4 (eR 0)) (eI 5) kAdd (eK (1)))
  (sIf (cC 0 (eAld 0 (eGet 7 4 (eR 0)) (eI 6)) (eK (-1))) (sSeq (sAst 0 (eGet 7 4 (eR 0)) (eI 6) (eAld 0 (eGet 1 1 (eR 2)) (eI 6)))
  (sSeq (sAst 0 (eGet 7 3 (eR 0)) (eI 3) (eI 6))
  (sInc 3 (1)))) sSkip))))
  (sSeq (sAst 0 (eGet 7 2 (eR 0)) (eGet 7 5 (eR 0)) (eI 5))
  (sSeq (sPutOp 7 5 (eR 0) kAdd (eK (1)))
  (sInc 3 (-1)))))))
  (sInc 4 (1))
def s_Strong_leave : kSx :=
  (sSeq (sSeq (sLet 1 2 (eGet 10 6 (eGet 7 0 (eR 0))))
  (sSeq (sAst 0 (eGet 7 4 (eR 0)) (eI 1) (eAld 0 (eGet 1 1 (eR 2)) (eI 1)))
  (sSeq (sAst 0 (eGet 7 3 (eR 0)) (eK (0)) (eI 1))
  (sSeq (sLet 0 3 (eK (1)))
  (sTrunc 4 (sSeq (sLet 0 4 (eK (0))) l_Strong_leave_1)))))) sRetV)
abbrev M_Strong_leave : kM := (cX7_leave, yX7_leave.cls, 7, { frames := 0, cells := 0, slots := 0, locals := 0 }, none)
set_option maxRecDepth 20000 in
theorem b_Strong_leave : kSt M_Strong_leave 0 0 0 0 s_Strong_leave :=
  (kSt_seq (kSt_seq (kSt_let (kE_get (kE_get (kE_aload_n dX7_leave_0) lf_RX7_24 dX7_leave_1) lf_RX7_57 dX7_leave_4) (kSet_astore_n dX7_leave_7 (by decide)))
  (kSt_seq (kSt_iast (kE_get (kE_aload_n dX7_leave_8) lf_RX7_21 dX7_leave_9) (kE_iload_n dX7_leave_12) (kE_iald (kE_get (kE_aload_n dX7_leave_13) lf_RX7_61 dX7_leave_14) (kE_iload_n dX7_leave_17) dX7_leave_18) dX7_leave_19)
  (kSt_seq (kSt_iast (kE_get (kE_aload_n dX7_leave_20) lf_RX7_18 dX7_leave_21) (kE_iconst dX7_leave_24 ⟨by decide, by decide⟩) (kE_iload_n dX7_leave_25) dX7_leave_26)
  (kSt_seq (kSt_let (kE_iconst dX7_leave_27 ⟨by decide, by decide⟩) (kSet_istore_n dX7_leave_28 (by decide)))
  (kSt_trunc (kSt_seq (kSt_let (kE_iconst dX7_leave_29 ⟨by decide, by decide⟩) (kSet_istore dX7_leave_30 (by decide))) (kSt_for (pu := 169) (pt := 44) (kCd_and (kCd_C (kE_iload dX7_leave_32) (kE_sipush dX7_leave_34 (by rfl) ⟨by decide, by decide⟩) (kJf_2 (tgt := 175) dX7_leave_37 (by decide))) (kCd_Z (kE_iload_n dX7_leave_40) (kZf_4 (tgt := 175) dX7_leave_41 (by decide)))) (kSt_trunc (kSt_seq (kSt_let (kE_iald (kE_get (kE_aload_n dX7_leave_44) lf_RX7_18 dX7_leave_45) (kE_bin (kE_iload_n dX7_leave_48) (kE_iconst dX7_leave_49 ⟨by decide, by decide⟩) (kOp_sub dX7_leave_50)) dX7_leave_51) (kSet_istore dX7_leave_52 (by decide)))
  (kSt_if (kCd_C (kE_iald (kE_get (kE_aload_n dX7_leave_54) lf_RX7_21 dX7_leave_55) (kE_iload dX7_leave_58) dX7_leave_60) (kE_iald (kE_get (kE_aload_n dX7_leave_61) lf_RX7_61 dX7_leave_62) (kE_bin (kE_iload dX7_leave_65) (kE_iconst dX7_leave_67 ⟨by decide, by decide⟩) (kOp_add dX7_leave_68)) dX7_leave_69) (kJf_2 (tgt := 145) dX7_leave_70 (by decide))) (kSt_goto (tgt := 169) (kSt_trunc (kSt_seq (kSt_let (kE_iald (kE_get (kE_get (kE_aload_n dX7_leave_73) lf_RX7_24 dX7_leave_74) lf_RX7_66 dX7_leave_77) (kE_iald (kE_get (kE_aload_n dX7_leave_80) lf_RX7_69 dX7_leave_81) (kE_iald (kE_get (kE_aload_n dX7_leave_84) lf_RX7_21 dX7_leave_85) (kE_iload dX7_leave_88) dX7_leave_90) dX7_leave_91) dX7_leave_92) (kSet_istore dX7_leave_93 (by decide)))
  (kSt_seq (kSt_iastOp (kE_get (kE_aload_n dX7_leave_95) lf_RX7_21 dX7_leave_96) (kE_iload dX7_leave_99) dX7_leave_101 dX7_leave_102 (kE_iconst dX7_leave_103 ⟨by decide, by decide⟩) (kOp_add dX7_leave_104) dX7_leave_105)
  (kSt_if (kCd_C (kE_iald (kE_get (kE_aload_n dX7_leave_106) lf_RX7_21 dX7_leave_107) (kE_iload dX7_leave_110) dX7_leave_112) (kE_iconst dX7_leave_113 ⟨by decide, by decide⟩) (kJf_0 (tgt := 142) dX7_leave_114 (by decide))) (kSt_seq (kSt_iast (kE_get (kE_aload_n dX7_leave_117) lf_RX7_21 dX7_leave_118) (kE_iload dX7_leave_121) (kE_iald (kE_get (kE_aload_n dX7_leave_123) lf_RX7_61 dX7_leave_124) (kE_iload dX7_leave_127) dX7_leave_129) dX7_leave_130)
  (kSt_seq (kSt_iast (kE_get (kE_aload_n dX7_leave_131) lf_RX7_18 dX7_leave_132) (kE_iload_n dX7_leave_135) (kE_iload dX7_leave_136) dX7_leave_138)
  (kSt_inc dX7_leave_139 (by decide)))) kSt_skip)))) dX7_leave_142 (by decide))
  (kSt_seq (kSt_iast (kE_get (kE_aload_n dX7_leave_145) lf_RX7_15 dX7_leave_146) (kE_get (kE_aload_n dX7_leave_149) lf_RX7_47 dX7_leave_150) (kE_iload dX7_leave_153) dX7_leave_155)
  (kSt_seq (kSt_putOp (kE_aload_n dX7_leave_156) dX7_leave_157 lf_RX7_47 dX7_leave_158 (kE_iconst dX7_leave_161 ⟨by decide, by decide⟩) (kOp_add dX7_leave_162) lp_RX7_47 dX7_leave_163)
  (kSt_inc dX7_leave_166 (by decide))))))) (kSt_goto (tgt := 32) (kSt_inc dX7_leave_169 (by decide)) dX7_leave_172 (by decide))))))))) (kSt_retV dX7_leave_175))
def F_Strong_leave : kFn := kF 2 kN s_Strong_leave
theorem c_Strong_leave : kCon yX7_leave cX7_leave 7 none { frames := 0, cells := 0, slots := 0, locals := 0 } F_Strong_leave := kCon_of kEnds_V (by decide +kernel) (by decide) ⟨0, 0, 0, b_Strong_leave⟩
def l_Strong_collect_1 : kSx := sFor 8 (cC 2 (eI 7) (eAld 0 (eGet 1 1 (eR 2)) (eBin kAdd (eI 6) (eK (1)))))
  (sTrunc 8 (sSeq (sLet 0 8 (eAld 0 (eGet 10 0 (eGet 7 0 (eR 0))) (eAld 0 (eGet 1 0 (eR 2)) (eI 7))))
  (sIf (cC 0 (eAld 0 (eGet 7 1 (eR 0)) (eI 8)) (eK (-1))) (sSeq (sAst 0 (eGet 7 1 (eR 0)) (eI 8) (eI 1))
  (sSeq (sAst 0 (eGet 7 3 (eR 0)) (eI 4) (eI 8))
  (sInc 4 (1)))) sSkip)))
  (sInc 7 (1))
def l_Strong_collect_2 : kSx := sFor 6 (cAnd (cC 2 (eI 5) (eK (300))) (cC 2 (eI 5) (eI 4)))
  (sTrunc 6 (sSeq (sLet 0 6 (eAld 0 (eGet 7 3 (eR 0)) (eI 5)))
  (sSeq (sLet 0 3 (eMin (eI 3) (eI 6)))
  (sTrunc 7 (sSeq (sLet 0 7 (eAld 0 (eGet 1 1 (eR 2)) (eI 6))) l_Strong_collect_1)))))
  (sInc 5 (1))
def l_Strong_collect_3 : kSx := sFor 6 (cC 2 (eI 5) (eI 4))
  (sAst 0 (eGet 7 1 (eR 0)) (eAld 0 (eGet 7 3 (eR 0)) (eI 5)) (eI 3))
  (sInc 5 (1))
def s_Strong_collect : kSx :=
  (sSeq (sSeq (sLet 1 2 (eGet 10 7 (eGet 7 0 (eR 0))))
  (sSeq (sAst 0 (eGet 7 1 (eR 0)) (eI 1) (eI 1))
  (sSeq (sAst 0 (eGet 7 3 (eR 0)) (eK (0)) (eI 1))
  (sSeq (sLet 0 3 (eI 1))
  (sSeq (sLet 0 4 (eK (1)))
  (sSeq (sTrunc 5 (sSeq (sLet 0 5 (eK (0))) l_Strong_collect_2))
  (sTrunc 5 (sSeq (sLet 0 5 (eK (0))) l_Strong_collect_3)))))))) sRetV)
abbrev M_Strong_collect : kM := (cX7_collect, yX7_collect.cls, 9, { frames := 1, cells := 0, slots := 0, locals := 21 }, none)
set_option maxRecDepth 20000 in
theorem b_Strong_collect : kSt M_Strong_collect 0 0 0 0 s_Strong_collect :=
  (kSt_seq (kSt_seq (kSt_let (kE_get (kE_get (kE_aload_n dX7_collect_0) lf_RX7_24 dX7_collect_1) lf_RX7_72 dX7_collect_4) (kSet_astore_n dX7_collect_7 (by decide)))
  (kSt_seq (kSt_iast (kE_get (kE_aload_n dX7_collect_8) lf_RX7_9 dX7_collect_9) (kE_iload_n dX7_collect_12) (kE_iload_n dX7_collect_13) dX7_collect_14)
  (kSt_seq (kSt_iast (kE_get (kE_aload_n dX7_collect_15) lf_RX7_18 dX7_collect_16) (kE_iconst dX7_collect_19 ⟨by decide, by decide⟩) (kE_iload_n dX7_collect_20) dX7_collect_21)
  (kSt_seq (kSt_let (kE_iload_n dX7_collect_22) (kSet_istore_n dX7_collect_23 (by decide)))
  (kSt_seq (kSt_let (kE_iconst dX7_collect_24 ⟨by decide, by decide⟩) (kSet_istore dX7_collect_25 (by decide)))
  (kSt_seq (kSt_trunc (kSt_seq (kSt_let (kE_iconst dX7_collect_27 ⟨by decide, by decide⟩) (kSet_istore dX7_collect_28 (by decide))) (kSt_for (pu := 138) (pt := 45) (kCd_and (kCd_C (kE_iload dX7_collect_30) (kE_sipush dX7_collect_32 (by rfl) ⟨by decide, by decide⟩) (kJf_2 (tgt := 144) dX7_collect_35 (by decide))) (kCd_C (kE_iload dX7_collect_38) (kE_iload dX7_collect_40) (kJf_2 (tgt := 144) dX7_collect_42 (by decide)))) (kSt_trunc (kSt_seq (kSt_let (kE_iald (kE_get (kE_aload_n dX7_collect_45) lf_RX7_18 dX7_collect_46) (kE_iload dX7_collect_49) dX7_collect_51) (kSet_istore dX7_collect_52 (by decide)))
  (kSt_seq (kSt_let (kE_min (kE_iload_n dX7_collect_54) (kE_iload dX7_collect_55) dX7_collect_57 lM_RX7_75 mw_min ⟨by decide, by decide⟩ (by decide)) (kSet_istore_n dX7_collect_60 (by decide)))
  (kSt_trunc (kSt_seq (kSt_let (kE_iald (kE_get (kE_aload_n dX7_collect_61) lf_RX7_61 dX7_collect_62) (kE_iload dX7_collect_65) dX7_collect_67) (kSet_istore dX7_collect_68 (by decide))) (kSt_for (pu := 132) (pt := 84) (kCd_C (kE_iload dX7_collect_70) (kE_iald (kE_get (kE_aload_n dX7_collect_72) lf_RX7_61 dX7_collect_73) (kE_bin (kE_iload dX7_collect_76) (kE_iconst dX7_collect_78 ⟨by decide, by decide⟩) (kOp_add dX7_collect_79)) dX7_collect_80) (kJf_2 (tgt := 138) dX7_collect_81 (by decide))) (kSt_trunc (kSt_seq (kSt_let (kE_iald (kE_get (kE_get (kE_aload_n dX7_collect_84) lf_RX7_24 dX7_collect_85) lf_RX7_81 dX7_collect_88) (kE_iald (kE_get (kE_aload_n dX7_collect_91) lf_RX7_69 dX7_collect_92) (kE_iload dX7_collect_95) dX7_collect_97) dX7_collect_98) (kSet_istore dX7_collect_99 (by decide)))
  (kSt_if (kCd_C (kE_iald (kE_get (kE_aload_n dX7_collect_101) lf_RX7_9 dX7_collect_102) (kE_iload dX7_collect_105) dX7_collect_107) (kE_iconst dX7_collect_108 ⟨by decide, by decide⟩) (kJf_0 (tgt := 132) dX7_collect_109 (by decide))) (kSt_seq (kSt_iast (kE_get (kE_aload_n dX7_collect_112) lf_RX7_9 dX7_collect_113) (kE_iload dX7_collect_116) (kE_iload_n dX7_collect_118) dX7_collect_119)
  (kSt_seq (kSt_iast (kE_get (kE_aload_n dX7_collect_120) lf_RX7_18 dX7_collect_121) (kE_iload dX7_collect_124) (kE_iload dX7_collect_126) dX7_collect_128)
  (kSt_inc dX7_collect_129 (by decide)))) kSt_skip))) (kSt_goto (tgt := 70) (kSt_inc dX7_collect_132 (by decide)) dX7_collect_135 (by decide)))))))) (kSt_goto (tgt := 30) (kSt_inc dX7_collect_138 (by decide)) dX7_collect_141 (by decide)))))
  (kSt_trunc (kSt_seq (kSt_let (kE_iconst dX7_collect_144 ⟨by decide, by decide⟩) (kSet_istore dX7_collect_145 (by decide))) (kSt_for (pu := 167) (pt := 154) (kCd_C (kE_iload dX7_collect_147) (kE_iload dX7_collect_149) (kJf_2 (tgt := 173) dX7_collect_151 (by decide))) (kSt_iast (kE_get (kE_aload_n dX7_collect_154) lf_RX7_9 dX7_collect_155) (kE_iald (kE_get (kE_aload_n dX7_collect_158) lf_RX7_18 dX7_collect_159) (kE_iload dX7_collect_162) dX7_collect_164) (kE_iload_n dX7_collect_165) dX7_collect_166) (kSt_goto (tgt := 147) (kSt_inc dX7_collect_167 (by decide)) dX7_collect_170 (by decide))))))))))) (kSt_retV dX7_collect_173))
def F_Strong_collect : kFn := kF 2 kN s_Strong_collect
theorem c_Strong_collect : kCon yX7_collect cX7_collect 9 none { frames := 1, cells := 0, slots := 0, locals := 21 } F_Strong_collect := kCon_of kEnds_V (by decide +kernel) (by decide) ⟨0, 0, 0, b_Strong_collect⟩
def l_Strong_look_1 : kSx := sFor 2 (cC 2 (eI 1) (eGet 10 3 (eGet 7 0 (eR 0))))
  (sIf (cC 0 (eAld 0 (eGet 7 4 (eR 0)) (eI 1)) (eK (-1))) (sCall 7 F_Strong_leave (eSnoc (eSnoc eNil (eR 0)) (eI 1))) sSkip)
  (sInc 1 (1))
def l_Strong_look_2 : kSx := sFor 2 (cZ 3 (eI 1))
  (sIf (cC 0 (eAld 0 (eGet 7 1 (eR 0)) (eAld 0 (eGet 7 2 (eR 0)) (eI 1))) (eK (-1))) (sCall 7 F_Strong_collect (eSnoc (eSnoc eNil (eR 0)) (eAld 0 (eGet 7 2 (eR 0)) (eI 1)))) sSkip)
  (sInc 1 (-1))
def s_Strong_look : kSx :=
  (sSeq (sSeq (sIf (cC 0 (eGet 7 6 (eR 0)) (eGet 10 5 (eGet 7 0 (eR 0)))) sRetV sSkip)
  (sSeq (sCallS F_Ar_fill (eSnoc (eSnoc eNil (eGet 7 4 (eR 0))) (eK (-1))))
  (sSeq (sPut 7 5 (eR 0) (eK (0)))
  (sSeq (sTrunc 1 (sSeq (sLet 0 1 (eK (0))) l_Strong_look_1))
  (sSeq (sCallS F_Ar_fill (eSnoc (eSnoc eNil (eGet 7 1 (eR 0))) (eK (-1))))
  (sSeq (sTrunc 1 (sSeq (sLet 0 1 (eBin kSub (eGet 7 5 (eR 0)) (eK (1)))) l_Strong_look_2))
  (sPut 7 6 (eR 0) (eGet 10 5 (eGet 7 0 (eR 0)))))))))) sRetV)
abbrev M_Strong_look : kM := (cX7_look, yX7_look.cls, 2, { frames := 2, cells := 0, slots := 0, locals := 49 }, none)
set_option maxRecDepth 20000 in
theorem b_Strong_look : kSt M_Strong_look 0 0 0 0 s_Strong_look :=
  (kSt_seq (kSt_seq (kSt_if (kCd_C (kE_get (kE_aload_n dX7_look_0) lf_RX7_37 dX7_look_1) (kE_get (kE_get (kE_aload_n dX7_look_4) lf_RX7_24 dX7_look_5) lf_RX7_40 dX7_look_8) (kJf_0 (tgt := 15) dX7_look_11 (by decide))) (kSt_retV dX7_look_14) kSt_skip)
  (kSt_seq (kSt_callS (kEs_snoc (kEs_snoc kEs_nil (kE_get (kE_aload_n dX7_look_15) lf_RX7_21 dX7_look_16)) (kE_iconst dX7_look_19 ⟨by decide, by decide⟩)) dX7_look_20 c_Ar_fill mv_Ar_fill lm_RX7_41 ⟨rfl, rfl, by decide, by decide⟩)
  (kSt_seq (kSt_put (kE_aload_n dX7_look_23) (kE_iconst dX7_look_24 ⟨by decide, by decide⟩) lp_RX7_47 dX7_look_25)
  (kSt_seq (kSt_trunc (kSt_seq (kSt_let (kE_iconst dX7_look_28 ⟨by decide, by decide⟩) (kSet_istore_n dX7_look_29 (by decide))) (kSt_for (pu := 56) (pt := 41) (kCd_C (kE_iload_n dX7_look_30) (kE_get (kE_get (kE_aload_n dX7_look_31) lf_RX7_24 dX7_look_32) lf_RX7_31 dX7_look_35) (kJf_2 (tgt := 62) dX7_look_38 (by decide))) (kSt_if (kCd_C (kE_iald (kE_get (kE_aload_n dX7_look_41) lf_RX7_21 dX7_look_42) (kE_iload_n dX7_look_45) dX7_look_46) (kE_iconst dX7_look_47 ⟨by decide, by decide⟩) (kJf_0 (tgt := 56) dX7_look_48 (by decide))) (kSt_call (kEs_snoc (kEs_snoc kEs_nil (kE_aload_n dX7_look_51)) (kE_iload_n dX7_look_52)) dX7_look_53 c_Strong_leave mv_Strong_leave lm_RX7_50 ⟨rfl, rfl, by decide, by decide⟩) kSt_skip) (kSt_goto (tgt := 30) (kSt_inc dX7_look_56 (by decide)) dX7_look_59 (by decide)))))
  (kSt_seq (kSt_callS (kEs_snoc (kEs_snoc kEs_nil (kE_get (kE_aload_n dX7_look_62) lf_RX7_9 dX7_look_63)) (kE_iconst dX7_look_66 ⟨by decide, by decide⟩)) dX7_look_67 c_Ar_fill mv_Ar_fill lm_RX7_41 ⟨rfl, rfl, by decide, by decide⟩)
  (kSt_seq (kSt_trunc (kSt_seq (kSt_let (kE_bin (kE_get (kE_aload_n dX7_look_70) lf_RX7_47 dX7_look_71) (kE_iconst dX7_look_74 ⟨by decide, by decide⟩) (kOp_sub dX7_look_75)) (kSet_istore_n dX7_look_76 (by decide))) (kSt_for (pu := 106) (pt := 81) (kCd_Z (kE_iload_n dX7_look_77) (kZf_3 (tgt := 112) dX7_look_78 (by decide))) (kSt_if (kCd_C (kE_iald (kE_get (kE_aload_n dX7_look_81) lf_RX7_9 dX7_look_82) (kE_iald (kE_get (kE_aload_n dX7_look_85) lf_RX7_15 dX7_look_86) (kE_iload_n dX7_look_89) dX7_look_90) dX7_look_91) (kE_iconst dX7_look_92 ⟨by decide, by decide⟩) (kJf_0 (tgt := 106) dX7_look_93 (by decide))) (kSt_call (kEs_snoc (kEs_snoc kEs_nil (kE_aload_n dX7_look_96)) (kE_iald (kE_get (kE_aload_n dX7_look_97) lf_RX7_15 dX7_look_98) (kE_iload_n dX7_look_101) dX7_look_102)) dX7_look_103 c_Strong_collect mv_Strong_collect lm_RX7_54 ⟨rfl, rfl, by decide, by decide⟩) kSt_skip) (kSt_goto (tgt := 77) (kSt_inc dX7_look_106 (by decide)) dX7_look_109 (by decide)))))
  (kSt_put (kE_aload_n dX7_look_112) (kE_get (kE_get (kE_aload_n dX7_look_113) lf_RX7_24 dX7_look_114) lf_RX7_40 dX7_look_117) lp_RX7_37 dX7_look_120))))))) (kSt_retV dX7_look_123))
def F_Strong_look : kFn := kF 1 kN s_Strong_look
theorem c_Strong_look : kCon yX7_look cX7_look 2 none { frames := 2, cells := 0, slots := 0, locals := 49 } F_Strong_look := kCon_of kEnds_V (by decide +kernel) (by decide) ⟨0, 0, 0, b_Strong_look⟩
def s_Strong_leastOf : kSx :=
  (sSeq (sCall 7 F_Strong_look (eSnoc eNil (eR 0)))
  (sRet 0 (eAld 0 (eGet 7 1 (eR 0)) (eI 1))))
abbrev M_Strong_leastOf : kM := (cX7_leastOf, yX7_leastOf.cls, 2, { frames := 3, cells := 0, slots := 0, locals := 70 }, (some .int))
set_option maxRecDepth 20000 in
theorem b_Strong_leastOf : kSt M_Strong_leastOf 0 0 0 0 s_Strong_leastOf :=
  (kSt_seq (kSt_call (kEs_snoc kEs_nil (kE_aload_n dX7_leastOf_0)) dX7_leastOf_1 c_Strong_look mv_Strong_look lm_RX7_28 ⟨rfl, rfl, by decide, by decide⟩)
  (kSt_ret (tag := 0) (kE_iald (kE_get (kE_aload_n dX7_leastOf_4) lf_RX7_9 dX7_leastOf_5) (kE_iload_n dX7_leastOf_8) dX7_leastOf_9) ⟨fun _ => dX7_leastOf_10, fun q => (by cases q), fun q => (by cases q)⟩))
def F_Strong_leastOf : kFn := kF 2 kI s_Strong_leastOf
theorem c_Strong_leastOf : kCon yX7_leastOf cX7_leastOf 2 (some .int) { frames := 3, cells := 0, slots := 0, locals := 70 } F_Strong_leastOf := kCon_of kEnds_I (by decide +kernel) (by decide) ⟨0, 0, 0, b_Strong_leastOf⟩
def l_Strong_parts_1 : kSx := sFor 3 (cC 2 (eI 2) (eGet 10 3 (eGet 7 0 (eR 0))))
  (sIf (cC 0 (eAld 0 (eGet 7 1 (eR 0)) (eI 2)) (eI 2)) (sInc 1 (1)) sSkip)
  (sInc 2 (1))
def s_Strong_parts : kSx :=
  (sSeq (sCall 7 F_Strong_look (eSnoc eNil (eR 0)))
  (sSeq (sLet 0 1 (eK (0)))
  (sSeq (sTrunc 2 (sSeq (sLet 0 2 (eK (0))) l_Strong_parts_1))
  (sRet 0 (eI 1)))))
abbrev M_Strong_parts : kM := (cX7_parts, yX7_parts.cls, 3, { frames := 3, cells := 0, slots := 0, locals := 70 }, (some .int))
set_option maxRecDepth 20000 in
theorem b_Strong_parts : kSt M_Strong_parts 0 0 0 0 s_Strong_parts :=
  (kSt_seq (kSt_call (kEs_snoc kEs_nil (kE_aload_n dX7_parts_0)) dX7_parts_1 c_Strong_look mv_Strong_look lm_RX7_28 ⟨rfl, rfl, by decide, by decide⟩)
  (kSt_seq (kSt_let (kE_iconst dX7_parts_4 ⟨by decide, by decide⟩) (kSet_istore_n dX7_parts_5 (by decide)))
  (kSt_seq (kSt_trunc (kSt_seq (kSt_let (kE_iconst dX7_parts_6 ⟨by decide, by decide⟩) (kSet_istore_n dX7_parts_7 (by decide))) (kSt_for (pu := 32) (pt := 19) (kCd_C (kE_iload_n dX7_parts_8) (kE_get (kE_get (kE_aload_n dX7_parts_9) lf_RX7_24 dX7_parts_10) lf_RX7_31 dX7_parts_13) (kJf_2 (tgt := 38) dX7_parts_16 (by decide))) (kSt_if (kCd_C (kE_iald (kE_get (kE_aload_n dX7_parts_19) lf_RX7_9 dX7_parts_20) (kE_iload_n dX7_parts_23) dX7_parts_24) (kE_iload_n dX7_parts_25) (kJf_0 (tgt := 32) dX7_parts_26 (by decide))) (kSt_inc dX7_parts_29 (by decide)) kSt_skip) (kSt_goto (tgt := 8) (kSt_inc dX7_parts_32 (by decide)) dX7_parts_35 (by decide)))))
  (kSt_ret (tag := 0) (kE_iload_n dX7_parts_38) ⟨fun _ => dX7_parts_39, fun q => (by cases q), fun q => (by cases q)⟩))))
def F_Strong_parts : kFn := kF 1 kI s_Strong_parts
theorem c_Strong_parts : kCon yX7_parts cX7_parts 3 (some .int) { frames := 3, cells := 0, slots := 0, locals := 70 } F_Strong_parts := kCon_of kEnds_I (by decide +kernel) (by decide) ⟨0, 0, 0, b_Strong_parts⟩
def l_Sides_findNear_1 : kSx := sFor 5 (cC 2 (eI 4) (eI 3))
  (sTrunc 5 (sSeq (sLet 0 5 (eCall 10 F_Web_other (eSnoc (eSnoc (eSnoc eNil (eGet 6 0 (eR 0))) (eCall 10 F_Web_arcAt (eSnoc (eSnoc (eSnoc eNil (eGet 6 0 (eR 0))) (eI 2)) (eI 4)))) (eI 2))))
  (sIf (cC 1 (eAld 0 (eGet 6 4 (eR 0)) (eI 5)) (eI 2)) (sSeq (sAst 0 (eGet 6 4 (eR 0)) (eI 5) (eI 2))
  (sSeq (sAst 0 (eGet 6 2 (eR 0)) (eI 1) (eI 5))
  (sInc 1 (1)))) sSkip)))
  (sInc 4 (1))
def l_Sides_findNear_2 : kSx := sFor 3 (cC 2 (eI 2) (eGet 10 3 (eGet 6 0 (eR 0))))
  (sTrunc 3 (sSeq (sAst 0 (eGet 6 1 (eR 0)) (eI 2) (eI 1))
  (sSeq (sAst 0 (eGet 6 4 (eR 0)) (eI 2) (eI 2))
  (sSeq (sLet 0 3 (eCall 10 F_Web_degree (eSnoc (eSnoc eNil (eGet 6 0 (eR 0))) (eI 2))))
  (sTrunc 4 (sSeq (sLet 0 4 (eK (0))) l_Sides_findNear_1))))))
  (sInc 2 (1))
def s_Sides_findNear : kSx :=
  (sSeq (sSeq (sCallS F_Ar_fill (eSnoc (eSnoc eNil (eGet 6 4 (eR 0))) (eK (-1))))
  (sSeq (sLet 0 1 (eK (0)))
  (sSeq (sTrunc 2 (sSeq (sLet 0 2 (eK (0))) l_Sides_findNear_2))
  (sAst 0 (eGet 6 1 (eR 0)) (eGet 10 3 (eGet 6 0 (eR 0))) (eI 1))))) sRetV)
abbrev M_Sides_findNear : kM := (cX6_findNear, yX6_findNear.cls, 6, { frames := 1, cells := 0, slots := 0, locals := 23 }, none)
set_option maxRecDepth 20000 in
theorem b_Sides_findNear : kSt M_Sides_findNear 0 0 0 0 s_Sides_findNear :=
  (kSt_seq (kSt_seq (kSt_callS (kEs_snoc (kEs_snoc kEs_nil (kE_get (kE_aload_n dX6_findNear_0) lf_RX6_21 dX6_findNear_1)) (kE_iconst dX6_findNear_4 ⟨by decide, by decide⟩)) dX6_findNear_5 c_Ar_fill mv_Ar_fill lm_RX6_70 ⟨rfl, rfl, by decide, by decide⟩)
  (kSt_seq (kSt_let (kE_iconst dX6_findNear_8 ⟨by decide, by decide⟩) (kSet_istore_n dX6_findNear_9 (by decide)))
  (kSt_seq (kSt_trunc (kSt_seq (kSt_let (kE_iconst dX6_findNear_10 ⟨by decide, by decide⟩) (kSet_istore_n dX6_findNear_11 (by decide))) (kSt_for (pu := 111) (pt := 23) (kCd_C (kE_iload_n dX6_findNear_12) (kE_get (kE_get (kE_aload_n dX6_findNear_13) lf_RX6_30 dX6_findNear_14) lf_RX6_37 dX6_findNear_17) (kJf_2 (tgt := 117) dX6_findNear_20 (by decide))) (kSt_trunc (kSt_seq (kSt_iast (kE_get (kE_aload_n dX6_findNear_23) lf_RX6_9 dX6_findNear_24) (kE_iload_n dX6_findNear_27) (kE_iload_n dX6_findNear_28) dX6_findNear_29)
  (kSt_seq (kSt_iast (kE_get (kE_aload_n dX6_findNear_30) lf_RX6_21 dX6_findNear_31) (kE_iload_n dX6_findNear_34) (kE_iload_n dX6_findNear_35) dX6_findNear_36)
  (kSt_seq (kSt_let (kE_call (kEs_snoc (kEs_snoc kEs_nil (kE_get (kE_aload_n dX6_findNear_37) lf_RX6_30 dX6_findNear_38)) (kE_iload_n dX6_findNear_41)) dX6_findNear_42 c_Web_degree mv_Web_degree lm_RX6_76 ⟨rfl, rfl, by decide, by decide⟩ (by decide)) (kSet_istore_n dX6_findNear_45 (by decide)))
  (kSt_trunc (kSt_seq (kSt_let (kE_iconst dX6_findNear_46 ⟨by decide, by decide⟩) (kSet_istore dX6_findNear_47 (by decide))) (kSt_for (pu := 105) (pt := 55) (kCd_C (kE_iload dX6_findNear_49) (kE_iload_n dX6_findNear_51) (kJf_2 (tgt := 111) dX6_findNear_52 (by decide))) (kSt_trunc (kSt_seq (kSt_let (kE_call (kEs_snoc (kEs_snoc (kEs_snoc kEs_nil (kE_get (kE_aload_n dX6_findNear_55) lf_RX6_30 dX6_findNear_56)) (kE_call (kEs_snoc (kEs_snoc (kEs_snoc kEs_nil (kE_get (kE_aload_n dX6_findNear_59) lf_RX6_30 dX6_findNear_60)) (kE_iload_n dX6_findNear_63)) (kE_iload dX6_findNear_64)) dX6_findNear_66 c_Web_arcAt mv_Web_arcAt lm_RX6_80 ⟨rfl, rfl, by decide, by decide⟩ (by decide))) (kE_iload_n dX6_findNear_69)) dX6_findNear_70 c_Web_other mv_Web_other lm_RX6_83 ⟨rfl, rfl, by decide, by decide⟩ (by decide)) (kSet_istore dX6_findNear_73 (by decide)))
  (kSt_if (kCd_C (kE_iald (kE_get (kE_aload_n dX6_findNear_75) lf_RX6_21 dX6_findNear_76) (kE_iload dX6_findNear_79) dX6_findNear_81) (kE_iload_n dX6_findNear_82) (kJf_1 (tgt := 105) dX6_findNear_83 (by decide))) (kSt_seq (kSt_iast (kE_get (kE_aload_n dX6_findNear_86) lf_RX6_21 dX6_findNear_87) (kE_iload dX6_findNear_90) (kE_iload_n dX6_findNear_92) dX6_findNear_93)
  (kSt_seq (kSt_iast (kE_get (kE_aload_n dX6_findNear_94) lf_RX6_15 dX6_findNear_95) (kE_iload_n dX6_findNear_98) (kE_iload dX6_findNear_99) dX6_findNear_101)
  (kSt_inc dX6_findNear_102 (by decide)))) kSt_skip))) (kSt_goto (tgt := 49) (kSt_inc dX6_findNear_105 (by decide)) dX6_findNear_108 (by decide))))))))) (kSt_goto (tgt := 12) (kSt_inc dX6_findNear_111 (by decide)) dX6_findNear_114 (by decide)))))
  (kSt_iast (kE_get (kE_aload_n dX6_findNear_117) lf_RX6_9 dX6_findNear_118) (kE_get (kE_get (kE_aload_n dX6_findNear_121) lf_RX6_30 dX6_findNear_122) lf_RX6_37 dX6_findNear_125) (kE_iload_n dX6_findNear_128) dX6_findNear_129)))) (kSt_retV dX6_findNear_130))
def F_Sides_findNear : kFn := kF 1 kN s_Sides_findNear
theorem c_Sides_findNear : kCon yX6_findNear cX6_findNear 6 none { frames := 1, cells := 0, slots := 0, locals := 23 } F_Sides_findNear := kCon_of kEnds_V (by decide +kernel) (by decide) ⟨0, 0, 0, b_Sides_findNear⟩
def l_Sides_peel_1 : kSx := sFor 4 (cC 2 (eI 3) (eGet 10 3 (eGet 6 0 (eR 0))))
  (sIf (cAnd (cC 0 (eAld 0 (eGet 6 3 (eR 0)) (eI 3)) (eK (-1))) (cC 2 (eAld 0 (eGet 6 5 (eR 0)) (eI 3)) (eI 1))) (sSeq (sAst 0 (eGet 6 3 (eR 0)) (eI 3) (eBin kSub (eI 1) (eK (1))))
  (sSeq (sAst 0 (eGet 6 6 (eR 0)) (eI 2) (eI 3))
  (sInc 2 (1)))) sSkip)
  (sInc 3 (1))
def l_Sides_peel_2 : kSx := sFor 6 (cC 2 (eI 5) (eAld 0 (eGet 6 1 (eR 0)) (eBin kAdd (eI 4) (eK (1)))))
  (sTrunc 6 (sSeq (sLet 0 6 (eAld 0 (eGet 6 2 (eR 0)) (eI 5)))
  (sSeq (sAstOp (eGet 6 5 (eR 0)) (eI 6) kSub (eK (1)))
  (sIf (cAnd (cC 0 (eAld 0 (eGet 6 3 (eR 0)) (eI 6)) (eK (-1))) (cC 2 (eAld 0 (eGet 6 5 (eR 0)) (eI 6)) (eI 1))) (sSeq (sAst 0 (eGet 6 3 (eR 0)) (eI 6) (eBin kSub (eI 1) (eK (1))))
  (sSeq (sAst 0 (eGet 6 6 (eR 0)) (eI 2) (eI 6))
  (sInc 2 (1)))) sSkip))))
  (sInc 5 (1))
def l_Sides_peel_3 : kSx := sFor 4 (cAnd (cC 2 (eI 3) (eK (300))) (cC 2 (eI 3) (eI 2)))
  (sTrunc 4 (sSeq (sLet 0 4 (eAld 0 (eGet 6 6 (eR 0)) (eI 3)))
  (sTrunc 5 (sSeq (sLet 0 5 (eAld 0 (eGet 6 1 (eR 0)) (eI 4))) l_Sides_peel_2))))
  (sInc 3 (1))
def s_Sides_peel : kSx :=
  (sSeq (sLet 0 2 (eK (0)))
  (sSeq (sTrunc 3 (sSeq (sLet 0 3 (eK (0))) l_Sides_peel_1))
  (sSeq (sTrunc 3 (sSeq (sLet 0 3 (eK (0))) l_Sides_peel_3))
  (sRet 0 (eI 2)))))
abbrev M_Sides_peel : kM := (cX6_peel, yX6_peel.cls, 7, { frames := 0, cells := 0, slots := 0, locals := 0 }, (some .int))
set_option maxRecDepth 20000 in
theorem b_Sides_peel : kSt M_Sides_peel 0 0 0 0 s_Sides_peel :=
  (kSt_seq (kSt_let (kE_iconst dX6_peel_0 ⟨by decide, by decide⟩) (kSet_istore_n dX6_peel_1 (by decide)))
  (kSt_seq (kSt_trunc (kSt_seq (kSt_let (kE_iconst dX6_peel_2 ⟨by decide, by decide⟩) (kSet_istore_n dX6_peel_3 (by decide))) (kSt_for (pu := 54) (pt := 15) (kCd_C (kE_iload_n dX6_peel_4) (kE_get (kE_get (kE_aload_n dX6_peel_5) lf_RX6_30 dX6_peel_6) lf_RX6_37 dX6_peel_9) (kJf_2 (tgt := 60) dX6_peel_12 (by decide))) (kSt_if (kCd_and (kCd_C (kE_iald (kE_get (kE_aload_n dX6_peel_15) lf_RX6_18 dX6_peel_16) (kE_iload_n dX6_peel_19) dX6_peel_20) (kE_iconst dX6_peel_21 ⟨by decide, by decide⟩) (kJf_0 (tgt := 54) dX6_peel_22 (by decide))) (kCd_C (kE_iald (kE_get (kE_aload_n dX6_peel_25) lf_RX6_24 dX6_peel_26) (kE_iload_n dX6_peel_29) dX6_peel_30) (kE_iload_n dX6_peel_31) (kJf_2 (tgt := 54) dX6_peel_32 (by decide)))) (kSt_seq (kSt_iast (kE_get (kE_aload_n dX6_peel_35) lf_RX6_18 dX6_peel_36) (kE_iload_n dX6_peel_39) (kE_bin (kE_iload_n dX6_peel_40) (kE_iconst dX6_peel_41 ⟨by decide, by decide⟩) (kOp_sub dX6_peel_42)) dX6_peel_43)
  (kSt_seq (kSt_iast (kE_get (kE_aload_n dX6_peel_44) lf_RX6_27 dX6_peel_45) (kE_iload_n dX6_peel_48) (kE_iload_n dX6_peel_49) dX6_peel_50)
  (kSt_inc dX6_peel_51 (by decide)))) kSt_skip) (kSt_goto (tgt := 4) (kSt_inc dX6_peel_54 (by decide)) dX6_peel_57 (by decide)))))
  (kSt_seq (kSt_trunc (kSt_seq (kSt_let (kE_iconst dX6_peel_60 ⟨by decide, by decide⟩) (kSet_istore_n dX6_peel_61 (by decide))) (kSt_for (pu := 174) (pt := 74) (kCd_and (kCd_C (kE_iload_n dX6_peel_62) (kE_sipush dX6_peel_63 (by rfl) ⟨by decide, by decide⟩) (kJf_2 (tgt := 180) dX6_peel_66 (by decide))) (kCd_C (kE_iload_n dX6_peel_69) (kE_iload_n dX6_peel_70) (kJf_2 (tgt := 180) dX6_peel_71 (by decide)))) (kSt_trunc (kSt_seq (kSt_let (kE_iald (kE_get (kE_aload_n dX6_peel_74) lf_RX6_27 dX6_peel_75) (kE_iload_n dX6_peel_78) dX6_peel_79) (kSet_istore dX6_peel_80 (by decide)))
  (kSt_trunc (kSt_seq (kSt_let (kE_iald (kE_get (kE_aload_n dX6_peel_82) lf_RX6_9 dX6_peel_83) (kE_iload dX6_peel_86) dX6_peel_88) (kSet_istore dX6_peel_89 (by decide))) (kSt_for (pu := 168) (pt := 105) (kCd_C (kE_iload dX6_peel_91) (kE_iald (kE_get (kE_aload_n dX6_peel_93) lf_RX6_9 dX6_peel_94) (kE_bin (kE_iload dX6_peel_97) (kE_iconst dX6_peel_99 ⟨by decide, by decide⟩) (kOp_add dX6_peel_100)) dX6_peel_101) (kJf_2 (tgt := 174) dX6_peel_102 (by decide))) (kSt_trunc (kSt_seq (kSt_let (kE_iald (kE_get (kE_aload_n dX6_peel_105) lf_RX6_15 dX6_peel_106) (kE_iload dX6_peel_109) dX6_peel_111) (kSet_istore dX6_peel_112 (by decide)))
  (kSt_seq (kSt_iastOp (kE_get (kE_aload_n dX6_peel_114) lf_RX6_24 dX6_peel_115) (kE_iload dX6_peel_118) dX6_peel_120 dX6_peel_121 (kE_iconst dX6_peel_122 ⟨by decide, by decide⟩) (kOp_sub dX6_peel_123) dX6_peel_124)
  (kSt_if (kCd_and (kCd_C (kE_iald (kE_get (kE_aload_n dX6_peel_125) lf_RX6_18 dX6_peel_126) (kE_iload dX6_peel_129) dX6_peel_131) (kE_iconst dX6_peel_132 ⟨by decide, by decide⟩) (kJf_0 (tgt := 168) dX6_peel_133 (by decide))) (kCd_C (kE_iald (kE_get (kE_aload_n dX6_peel_136) lf_RX6_24 dX6_peel_137) (kE_iload dX6_peel_140) dX6_peel_142) (kE_iload_n dX6_peel_143) (kJf_2 (tgt := 168) dX6_peel_144 (by decide)))) (kSt_seq (kSt_iast (kE_get (kE_aload_n dX6_peel_147) lf_RX6_18 dX6_peel_148) (kE_iload dX6_peel_151) (kE_bin (kE_iload_n dX6_peel_153) (kE_iconst dX6_peel_154 ⟨by decide, by decide⟩) (kOp_sub dX6_peel_155)) dX6_peel_156)
  (kSt_seq (kSt_iast (kE_get (kE_aload_n dX6_peel_157) lf_RX6_27 dX6_peel_158) (kE_iload_n dX6_peel_161) (kE_iload dX6_peel_162) dX6_peel_164)
  (kSt_inc dX6_peel_165 (by decide)))) kSt_skip)))) (kSt_goto (tgt := 91) (kSt_inc dX6_peel_168 (by decide)) dX6_peel_171 (by decide))))))) (kSt_goto (tgt := 62) (kSt_inc dX6_peel_174 (by decide)) dX6_peel_177 (by decide)))))
  (kSt_ret (tag := 0) (kE_iload_n dX6_peel_180) ⟨fun _ => dX6_peel_181, fun q => (by cases q), fun q => (by cases q)⟩))))
def F_Sides_peel : kFn := kF 2 kI s_Sides_peel
theorem c_Sides_peel : kCon yX6_peel cX6_peel 7 (some .int) { frames := 0, cells := 0, slots := 0, locals := 0 } F_Sides_peel := kCon_of kEnds_I (by decide +kernel) (by decide) ⟨0, 0, 0, b_Sides_peel⟩
def l_Sides_findCores_1 : kSx := sFor 2 (cC 2 (eI 1) (eGet 10 3 (eGet 6 0 (eR 0))))
  (sSeq (sAst 0 (eGet 6 5 (eR 0)) (eI 1) (eBin kSub (eAld 0 (eGet 6 1 (eR 0)) (eBin kAdd (eI 1) (eK (1)))) (eAld 0 (eGet 6 1 (eR 0)) (eI 1))))
  (sAst 0 (eGet 6 3 (eR 0)) (eI 1) (eK (-1))))
  (sInc 1 (1))
def l_Sides_findCores_2 : kSx := sFor 3 (cAnd (cC 5 (eI 2) (eK (300))) (cC 2 (eI 1) (eGet 10 3 (eGet 6 0 (eR 0)))))
  (sLet 0 1 (eBin kAdd (eI 1) (eCall 6 F_Sides_peel (eSnoc (eSnoc eNil (eR 0)) (eI 2)))))
  (sInc 2 (1))
def s_Sides_findCores : kSx :=
  (sSeq (sSeq (sTrunc 1 (sSeq (sLet 0 1 (eK (0))) l_Sides_findCores_1))
  (sSeq (sLet 0 1 (eK (0)))
  (sTrunc 2 (sSeq (sLet 0 2 (eK (1))) l_Sides_findCores_2)))) sRetV)
abbrev M_Sides_findCores : kM := (cX6_findCores, yX6_findCores.cls, 3, { frames := 1, cells := 0, slots := 0, locals := 26 }, none)
set_option maxRecDepth 20000 in
theorem b_Sides_findCores : kSt M_Sides_findCores 0 0 0 0 s_Sides_findCores :=
  (kSt_seq (kSt_seq (kSt_trunc (kSt_seq (kSt_let (kE_iconst dX6_findCores_0 ⟨by decide, by decide⟩) (kSet_istore_n dX6_findCores_1 (by decide))) (kSt_for (pu := 41) (pt := 13) (kCd_C (kE_iload_n dX6_findCores_2) (kE_get (kE_get (kE_aload_n dX6_findCores_3) lf_RX6_30 dX6_findCores_4) lf_RX6_37 dX6_findCores_7) (kJf_2 (tgt := 47) dX6_findCores_10 (by decide))) (kSt_seq (kSt_iast (kE_get (kE_aload_n dX6_findCores_13) lf_RX6_24 dX6_findCores_14) (kE_iload_n dX6_findCores_17) (kE_bin (kE_iald (kE_get (kE_aload_n dX6_findCores_18) lf_RX6_9 dX6_findCores_19) (kE_bin (kE_iload_n dX6_findCores_22) (kE_iconst dX6_findCores_23 ⟨by decide, by decide⟩) (kOp_add dX6_findCores_24)) dX6_findCores_25) (kE_iald (kE_get (kE_aload_n dX6_findCores_26) lf_RX6_9 dX6_findCores_27) (kE_iload_n dX6_findCores_30) dX6_findCores_31) (kOp_sub dX6_findCores_32)) dX6_findCores_33)
  (kSt_iast (kE_get (kE_aload_n dX6_findCores_34) lf_RX6_18 dX6_findCores_35) (kE_iload_n dX6_findCores_38) (kE_iconst dX6_findCores_39 ⟨by decide, by decide⟩) dX6_findCores_40)) (kSt_goto (tgt := 2) (kSt_inc dX6_findCores_41 (by decide)) dX6_findCores_44 (by decide)))))
  (kSt_seq (kSt_let (kE_iconst dX6_findCores_47 ⟨by decide, by decide⟩) (kSet_istore_n dX6_findCores_48 (by decide)))
  (kSt_trunc (kSt_seq (kSt_let (kE_iconst dX6_findCores_49 ⟨by decide, by decide⟩) (kSet_istore_n dX6_findCores_50 (by decide))) (kSt_for (pu := 77) (pt := 69) (kCd_and (kCd_C (kE_iload_n dX6_findCores_51) (kE_sipush dX6_findCores_52 (by rfl) ⟨by decide, by decide⟩) (kJf_5 (tgt := 83) dX6_findCores_55 (by decide))) (kCd_C (kE_iload_n dX6_findCores_58) (kE_get (kE_get (kE_aload_n dX6_findCores_59) lf_RX6_30 dX6_findCores_60) lf_RX6_37 dX6_findCores_63) (kJf_2 (tgt := 83) dX6_findCores_66 (by decide)))) (kSt_let (kE_bin (kE_iload_n dX6_findCores_69) (kE_call (kEs_snoc (kEs_snoc kEs_nil (kE_aload_n dX6_findCores_70)) (kE_iload_n dX6_findCores_71)) dX6_findCores_72 c_Sides_peel mv_Sides_peel lm_RX6_86 ⟨rfl, rfl, by decide, by decide⟩ (by decide)) (kOp_add dX6_findCores_75)) (kSet_istore_n dX6_findCores_76 (by decide))) (kSt_goto (tgt := 51) (kSt_inc dX6_findCores_77 (by decide)) dX6_findCores_80 (by decide))))))) (kSt_retV dX6_findCores_83))
def F_Sides_findCores : kFn := kF 1 kN s_Sides_findCores
theorem c_Sides_findCores : kCon yX6_findCores cX6_findCores 3 none { frames := 1, cells := 0, slots := 0, locals := 26 } F_Sides_findCores := kCon_of kEnds_V (by decide +kernel) (by decide) ⟨0, 0, 0, b_Sides_findCores⟩
def l_Sides_markedBehind_1 : kSx := sFor 5 (cC 2 (eI 4) (eAld 0 (eGet 6 1 (eR 0)) (eBin kAdd (eI 1) (eK (1)))))
  (sIf (cAnd (cC 4 (eAld 0 (eGet 6 2 (eR 0)) (eI 4)) (eI 1)) (cC 0 (eAld 0 (eGet 6 4 (eR 0)) (eAld 0 (eGet 6 2 (eR 0)) (eI 4))) (eI 2))) (sInc 3 (1)) sSkip)
  (sInc 4 (1))
def s_Sides_markedBehind : kSx :=
  (sSeq (sLet 0 3 (eK (0)))
  (sSeq (sTrunc 4 (sSeq (sLet 0 4 (eAld 0 (eGet 6 1 (eR 0)) (eI 1))) l_Sides_markedBehind_1))
  (sRet 0 (eI 3))))
abbrev M_Sides_markedBehind : kM := (cX6_markedBehind, yX6_markedBehind.cls, 5, { frames := 0, cells := 0, slots := 0, locals := 0 }, (some .int))
set_option maxRecDepth 20000 in
theorem b_Sides_markedBehind : kSt M_Sides_markedBehind 0 0 0 0 s_Sides_markedBehind :=
  (kSt_seq (kSt_let (kE_iconst dX6_markedBehind_0 ⟨by decide, by decide⟩) (kSet_istore_n dX6_markedBehind_1 (by decide)))
  (kSt_seq (kSt_trunc (kSt_seq (kSt_let (kE_iald (kE_get (kE_aload_n dX6_markedBehind_2) lf_RX6_9 dX6_markedBehind_3) (kE_iload_n dX6_markedBehind_6) dX6_markedBehind_7) (kSet_istore dX6_markedBehind_8 (by decide))) (kSt_for (pu := 53) (pt := 23) (kCd_C (kE_iload dX6_markedBehind_10) (kE_iald (kE_get (kE_aload_n dX6_markedBehind_12) lf_RX6_9 dX6_markedBehind_13) (kE_bin (kE_iload_n dX6_markedBehind_16) (kE_iconst dX6_markedBehind_17 ⟨by decide, by decide⟩) (kOp_add dX6_markedBehind_18)) dX6_markedBehind_19) (kJf_2 (tgt := 59) dX6_markedBehind_20 (by decide))) (kSt_if (kCd_and (kCd_C (kE_iald (kE_get (kE_aload_n dX6_markedBehind_23) lf_RX6_15 dX6_markedBehind_24) (kE_iload dX6_markedBehind_27) dX6_markedBehind_29) (kE_iload_n dX6_markedBehind_30) (kJf_4 (tgt := 53) dX6_markedBehind_31 (by decide))) (kCd_C (kE_iald (kE_get (kE_aload_n dX6_markedBehind_34) lf_RX6_21 dX6_markedBehind_35) (kE_iald (kE_get (kE_aload_n dX6_markedBehind_38) lf_RX6_15 dX6_markedBehind_39) (kE_iload dX6_markedBehind_42) dX6_markedBehind_44) dX6_markedBehind_45) (kE_iload_n dX6_markedBehind_46) (kJf_0 (tgt := 53) dX6_markedBehind_47 (by decide)))) (kSt_inc dX6_markedBehind_50 (by decide)) kSt_skip) (kSt_goto (tgt := 10) (kSt_inc dX6_markedBehind_53 (by decide)) dX6_markedBehind_56 (by decide)))))
  (kSt_ret (tag := 0) (kE_iload_n dX6_markedBehind_59) ⟨fun _ => dX6_markedBehind_60, fun q => (by cases q), fun q => (by cases q)⟩)))
def F_Sides_markedBehind : kFn := kF 3 kI s_Sides_markedBehind
theorem c_Sides_markedBehind : kCon yX6_markedBehind cX6_markedBehind 5 (some .int) { frames := 0, cells := 0, slots := 0, locals := 0 } F_Sides_markedBehind := kCon_of kEnds_I (by decide +kernel) (by decide) ⟨0, 0, 0, b_Sides_markedBehind⟩
def l_Sides_countThrees_1 : kSx := sFor 5 (cC 2 (eI 4) (eAld 0 (eGet 6 1 (eR 0)) (eBin kAdd (eI 3) (eK (1)))))
  (sAst 0 (eGet 6 4 (eR 0)) (eAld 0 (eGet 6 2 (eR 0)) (eI 4)) (eI 3))
  (sInc 4 (1))
def l_Sides_countThrees_2 : kSx := sFor 5 (cC 2 (eI 4) (eAld 0 (eGet 6 1 (eR 0)) (eBin kAdd (eI 3) (eK (1)))))
  (sIf (cC 4 (eAld 0 (eGet 6 2 (eR 0)) (eI 4)) (eI 3)) (sLet 2 1 (eLAdd (eJ 1) (eI2L (eCall 6 F_Sides_markedBehind (eSnoc (eSnoc (eSnoc eNil (eR 0)) (eAld 0 (eGet 6 2 (eR 0)) (eI 4))) (eI 3)))))) sSkip)
  (sInc 4 (1))
def l_Sides_countThrees_3 : kSx := sFor 4 (cC 2 (eI 3) (eGet 10 3 (eGet 6 0 (eR 0))))
  (sSeq (sTrunc 4 (sSeq (sLet 0 4 (eAld 0 (eGet 6 1 (eR 0)) (eI 3))) l_Sides_countThrees_1))
  (sTrunc 4 (sSeq (sLet 0 4 (eAld 0 (eGet 6 1 (eR 0)) (eI 3))) l_Sides_countThrees_2)))
  (sInc 3 (1))
def s_Sides_countThrees : kSx :=
  (sSeq (sCallS F_Ar_fill (eSnoc (eSnoc eNil (eGet 6 4 (eR 0))) (eK (-1))))
  (sSeq (sLet 2 1 (eKL (0)))
  (sSeq (sTrunc 3 (sSeq (sLet 0 3 (eK (0))) l_Sides_countThrees_3))
  (sRet 2 (eJ 1)))))
abbrev M_Sides_countThrees : kM := (cX6_countThrees, yX6_countThrees.cls, 5, { frames := 1, cells := 0, slots := 0, locals := 24 }, (some .long))
set_option maxRecDepth 20000 in
theorem b_Sides_countThrees : kSt M_Sides_countThrees 0 0 0 0 s_Sides_countThrees :=
  (kSt_seq (kSt_callS (kEs_snoc (kEs_snoc kEs_nil (kE_get (kE_aload_n dX6_countThrees_0) lf_RX6_21 dX6_countThrees_1)) (kE_iconst dX6_countThrees_4 ⟨by decide, by decide⟩)) dX6_countThrees_5 c_Ar_fill mv_Ar_fill lm_RX6_70 ⟨rfl, rfl, by decide, by decide⟩)
  (kSt_seq (kSt_let (kE_lconst dX6_countThrees_8) (kSet_lstore_n dX6_countThrees_9 (by decide)))
  (kSt_seq (kSt_trunc (kSt_seq (kSt_let (kE_iconst dX6_countThrees_10 ⟨by decide, by decide⟩) (kSet_istore_n dX6_countThrees_11 (by decide))) (kSt_for (pu := 117) (pt := 23) (kCd_C (kE_iload_n dX6_countThrees_12) (kE_get (kE_get (kE_aload_n dX6_countThrees_13) lf_RX6_30 dX6_countThrees_14) lf_RX6_37 dX6_countThrees_17) (kJf_2 (tgt := 123) dX6_countThrees_20 (by decide))) (kSt_seq (kSt_trunc (kSt_seq (kSt_let (kE_iald (kE_get (kE_aload_n dX6_countThrees_23) lf_RX6_9 dX6_countThrees_24) (kE_iload_n dX6_countThrees_27) dX6_countThrees_28) (kSet_istore dX6_countThrees_29 (by decide))) (kSt_for (pu := 57) (pt := 44) (kCd_C (kE_iload dX6_countThrees_31) (kE_iald (kE_get (kE_aload_n dX6_countThrees_33) lf_RX6_9 dX6_countThrees_34) (kE_bin (kE_iload_n dX6_countThrees_37) (kE_iconst dX6_countThrees_38 ⟨by decide, by decide⟩) (kOp_add dX6_countThrees_39)) dX6_countThrees_40) (kJf_2 (tgt := 63) dX6_countThrees_41 (by decide))) (kSt_iast (kE_get (kE_aload_n dX6_countThrees_44) lf_RX6_21 dX6_countThrees_45) (kE_iald (kE_get (kE_aload_n dX6_countThrees_48) lf_RX6_15 dX6_countThrees_49) (kE_iload dX6_countThrees_52) dX6_countThrees_54) (kE_iload_n dX6_countThrees_55) dX6_countThrees_56) (kSt_goto (tgt := 31) (kSt_inc dX6_countThrees_57 (by decide)) dX6_countThrees_60 (by decide)))))
  (kSt_trunc (kSt_seq (kSt_let (kE_iald (kE_get (kE_aload_n dX6_countThrees_63) lf_RX6_9 dX6_countThrees_64) (kE_iload_n dX6_countThrees_67) dX6_countThrees_68) (kSet_istore dX6_countThrees_69 (by decide))) (kSt_for (pu := 111) (pt := 84) (kCd_C (kE_iload dX6_countThrees_71) (kE_iald (kE_get (kE_aload_n dX6_countThrees_73) lf_RX6_9 dX6_countThrees_74) (kE_bin (kE_iload_n dX6_countThrees_77) (kE_iconst dX6_countThrees_78 ⟨by decide, by decide⟩) (kOp_add dX6_countThrees_79)) dX6_countThrees_80) (kJf_2 (tgt := 117) dX6_countThrees_81 (by decide))) (kSt_if (kCd_C (kE_iald (kE_get (kE_aload_n dX6_countThrees_84) lf_RX6_15 dX6_countThrees_85) (kE_iload dX6_countThrees_88) dX6_countThrees_90) (kE_iload_n dX6_countThrees_91) (kJf_4 (tgt := 111) dX6_countThrees_92 (by decide))) (kSt_let (kE_ladd (kE_lload_n dX6_countThrees_95) (kE_i2l (kE_call (kEs_snoc (kEs_snoc (kEs_snoc kEs_nil (kE_aload_n dX6_countThrees_96)) (kE_iald (kE_get (kE_aload_n dX6_countThrees_97) lf_RX6_15 dX6_countThrees_98) (kE_iload dX6_countThrees_101) dX6_countThrees_103)) (kE_iload_n dX6_countThrees_104)) dX6_countThrees_105 c_Sides_markedBehind mv_Sides_markedBehind lm_RX6_89 ⟨rfl, rfl, by decide, by decide⟩ (by decide)) dX6_countThrees_108) dX6_countThrees_109) (kSet_lstore_n dX6_countThrees_110 (by decide))) kSt_skip) (kSt_goto (tgt := 71) (kSt_inc dX6_countThrees_111 (by decide)) dX6_countThrees_114 (by decide)))))) (kSt_goto (tgt := 12) (kSt_inc dX6_countThrees_117 (by decide)) dX6_countThrees_120 (by decide)))))
  (kSt_ret (tag := 2) (kE_lload_n dX6_countThrees_123) ⟨fun q => (by cases q), fun q => (by cases q), fun _ => dX6_countThrees_124⟩))))
def F_Sides_countThrees : kFn := kF 1 kJl s_Sides_countThrees
theorem c_Sides_countThrees : kCon yX6_countThrees cX6_countThrees 5 (some .long) { frames := 1, cells := 0, slots := 0, locals := 24 } F_Sides_countThrees := kCon_of kEnds_J (by decide +kernel) (by decide) ⟨0, 0, 0, b_Sides_countThrees⟩
def s_Sides_renew : kSx :=
  (sSeq (sSeq (sCall 6 F_Sides_findNear (eSnoc eNil (eR 0)))
  (sSeq (sCall 6 F_Sides_findCores (eSnoc eNil (eR 0)))
  (sSeq (sPut 6 7 (eR 0) (eCall 6 F_Sides_countThrees (eSnoc eNil (eR 0))))
  (sPut 6 8 (eR 0) (eGet 10 5 (eGet 6 0 (eR 0))))))) sRetV)
abbrev M_Sides_renew : kM := (cX6_renew, yX6_renew.cls, 1, { frames := 2, cells := 0, slots := 0, locals := 48 }, none)
set_option maxRecDepth 20000 in
theorem b_Sides_renew : kSt M_Sides_renew 0 0 0 0 s_Sides_renew :=
  (kSt_seq (kSt_seq (kSt_call (kEs_snoc kEs_nil (kE_aload_n dX6_renew_0)) dX6_renew_1 c_Sides_findNear mv_Sides_findNear lm_RX6_60 ⟨rfl, rfl, by decide, by decide⟩)
  (kSt_seq (kSt_call (kEs_snoc kEs_nil (kE_aload_n dX6_renew_4)) dX6_renew_5 c_Sides_findCores mv_Sides_findCores lm_RX6_63 ⟨rfl, rfl, by decide, by decide⟩)
  (kSt_seq (kSt_put (kE_aload_n dX6_renew_8) (kE_call (kEs_snoc kEs_nil (kE_aload_n dX6_renew_9)) dX6_renew_10 c_Sides_countThrees mv_Sides_countThrees lm_RX6_66 ⟨rfl, rfl, by decide, by decide⟩ (by decide)) lp_RX6_49 dX6_renew_13)
  (kSt_put (kE_aload_n dX6_renew_16) (kE_get (kE_get (kE_aload_n dX6_renew_17) lf_RX6_30 dX6_renew_18) lf_RX6_59 dX6_renew_21) lp_RX6_56 dX6_renew_24)))) (kSt_retV dX6_renew_27))
def F_Sides_renew : kFn := kF 1 kN s_Sides_renew
theorem c_Sides_renew : kCon yX6_renew cX6_renew 1 none { frames := 2, cells := 0, slots := 0, locals := 48 } F_Sides_renew := kCon_of kEnds_V (by decide +kernel) (by decide) ⟨0, 0, 0, b_Sides_renew⟩
def s_Sides_look : kSx :=
  (sSeq (sIf (cC 1 (eGet 6 8 (eR 0)) (eGet 10 5 (eGet 6 0 (eR 0)))) (sCall 6 F_Sides_renew (eSnoc eNil (eR 0))) sSkip) sRetV)
abbrev M_Sides_look : kM := (cX6_look, yX6_look.cls, 1, { frames := 3, cells := 0, slots := 0, locals := 68 }, none)
set_option maxRecDepth 20000 in
theorem b_Sides_look : kSt M_Sides_look 0 0 0 0 s_Sides_look :=
  (kSt_seq (kSt_if (kCd_C (kE_get (kE_aload_n dX6_look_0) lf_RX6_56 dX6_look_1) (kE_get (kE_get (kE_aload_n dX6_look_4) lf_RX6_30 dX6_look_5) lf_RX6_59 dX6_look_8) (kJf_1 (tgt := 18) dX6_look_11 (by decide))) (kSt_call (kEs_snoc kEs_nil (kE_aload_n dX6_look_14)) dX6_look_15 c_Sides_renew mv_Sides_renew lm_RX6_53 ⟨rfl, rfl, by decide, by decide⟩) kSt_skip) (kSt_retV dX6_look_18))
def F_Sides_look : kFn := kF 1 kN s_Sides_look
theorem c_Sides_look : kCon yX6_look cX6_look 1 none { frames := 3, cells := 0, slots := 0, locals := 68 } F_Sides_look := kCon_of kEnds_V (by decide +kernel) (by decide) ⟨0, 0, 0, b_Sides_look⟩
def s_Sides_countOf : kSx :=
  (sSeq (sCall 6 F_Sides_look (eSnoc eNil (eR 0)))
  (sRet 0 (eBin kSub (eAld 0 (eGet 6 1 (eR 0)) (eBin kAdd (eI 1) (eK (1)))) (eAld 0 (eGet 6 1 (eR 0)) (eI 1)))))
abbrev M_Sides_countOf : kM := (cX6_countOf, yX6_countOf.cls, 2, { frames := 4, cells := 0, slots := 0, locals := 88 }, (some .int))
set_option maxRecDepth 20000 in
theorem b_Sides_countOf : kSt M_Sides_countOf 0 0 0 0 s_Sides_countOf :=
  (kSt_seq (kSt_call (kEs_snoc kEs_nil (kE_aload_n dX6_countOf_0)) dX6_countOf_1 c_Sides_look mv_Sides_look lm_RX6_34 ⟨rfl, rfl, by decide, by decide⟩)
  (kSt_ret (tag := 0) (kE_bin (kE_iald (kE_get (kE_aload_n dX6_countOf_4) lf_RX6_9 dX6_countOf_5) (kE_bin (kE_iload_n dX6_countOf_8) (kE_iconst dX6_countOf_9 ⟨by decide, by decide⟩) (kOp_add dX6_countOf_10)) dX6_countOf_11) (kE_iald (kE_get (kE_aload_n dX6_countOf_12) lf_RX6_9 dX6_countOf_13) (kE_iload_n dX6_countOf_16) dX6_countOf_17) (kOp_sub dX6_countOf_18)) ⟨fun _ => dX6_countOf_19, fun q => (by cases q), fun q => (by cases q)⟩))
def F_Sides_countOf : kFn := kF 2 kI s_Sides_countOf
theorem c_Sides_countOf : kCon yX6_countOf cX6_countOf 2 (some .int) { frames := 4, cells := 0, slots := 0, locals := 88 } F_Sides_countOf := kCon_of kEnds_I (by decide +kernel) (by decide) ⟨0, 0, 0, b_Sides_countOf⟩
def s_Sides_coreOf : kSx :=
  (sSeq (sCall 6 F_Sides_look (eSnoc eNil (eR 0)))
  (sRet 0 (eAld 0 (eGet 6 3 (eR 0)) (eI 1))))
abbrev M_Sides_coreOf : kM := (cX6_coreOf, yX6_coreOf.cls, 2, { frames := 4, cells := 0, slots := 0, locals := 88 }, (some .int))
set_option maxRecDepth 20000 in
theorem b_Sides_coreOf : kSt M_Sides_coreOf 0 0 0 0 s_Sides_coreOf :=
  (kSt_seq (kSt_call (kEs_snoc kEs_nil (kE_aload_n dX6_coreOf_0)) dX6_coreOf_1 c_Sides_look mv_Sides_look lm_RX6_34 ⟨rfl, rfl, by decide, by decide⟩)
  (kSt_ret (tag := 0) (kE_iald (kE_get (kE_aload_n dX6_coreOf_4) lf_RX6_18 dX6_coreOf_5) (kE_iload_n dX6_coreOf_8) dX6_coreOf_9) ⟨fun _ => dX6_coreOf_10, fun q => (by cases q), fun q => (by cases q)⟩))
def F_Sides_coreOf : kFn := kF 2 kI s_Sides_coreOf
theorem c_Sides_coreOf : kCon yX6_coreOf cX6_coreOf 2 (some .int) { frames := 4, cells := 0, slots := 0, locals := 88 } F_Sides_coreOf := kCon_of kEnds_I (by decide +kernel) (by decide) ⟨0, 0, 0, b_Sides_coreOf⟩
def l_Sides_greatestCore_1 : kSx := sFor 3 (cC 2 (eI 2) (eGet 10 3 (eGet 6 0 (eR 0))))
  (sLet 0 1 (eMax (eI 1) (eAld 0 (eGet 6 3 (eR 0)) (eI 2))))
  (sInc 2 (1))
def s_Sides_greatestCore : kSx :=
  (sSeq (sCall 6 F_Sides_look (eSnoc eNil (eR 0)))
  (sSeq (sLet 0 1 (eK (0)))
  (sSeq (sTrunc 2 (sSeq (sLet 0 2 (eK (0))) l_Sides_greatestCore_1))
  (sRet 0 (eI 1)))))
abbrev M_Sides_greatestCore : kM := (cX6_greatestCore, yX6_greatestCore.cls, 3, { frames := 4, cells := 0, slots := 0, locals := 88 }, (some .int))
set_option maxRecDepth 20000 in
theorem b_Sides_greatestCore : kSt M_Sides_greatestCore 0 0 0 0 s_Sides_greatestCore :=
  (kSt_seq (kSt_call (kEs_snoc kEs_nil (kE_aload_n dX6_greatestCore_0)) dX6_greatestCore_1 c_Sides_look mv_Sides_look lm_RX6_34 ⟨rfl, rfl, by decide, by decide⟩)
  (kSt_seq (kSt_let (kE_iconst dX6_greatestCore_4 ⟨by decide, by decide⟩) (kSet_istore_n dX6_greatestCore_5 (by decide)))
  (kSt_seq (kSt_trunc (kSt_seq (kSt_let (kE_iconst dX6_greatestCore_6 ⟨by decide, by decide⟩) (kSet_istore_n dX6_greatestCore_7 (by decide))) (kSt_for (pu := 30) (pt := 19) (kCd_C (kE_iload_n dX6_greatestCore_8) (kE_get (kE_get (kE_aload_n dX6_greatestCore_9) lf_RX6_30 dX6_greatestCore_10) lf_RX6_37 dX6_greatestCore_13) (kJf_2 (tgt := 36) dX6_greatestCore_16 (by decide))) (kSt_let (kE_max (kE_iload_n dX6_greatestCore_19) (kE_iald (kE_get (kE_aload_n dX6_greatestCore_20) lf_RX6_18 dX6_greatestCore_21) (kE_iload_n dX6_greatestCore_24) dX6_greatestCore_25) dX6_greatestCore_26 lM_RX6_43 mw_max ⟨by decide, by decide⟩ (by decide)) (kSet_istore_n dX6_greatestCore_29 (by decide))) (kSt_goto (tgt := 8) (kSt_inc dX6_greatestCore_30 (by decide)) dX6_greatestCore_33 (by decide)))))
  (kSt_ret (tag := 0) (kE_iload_n dX6_greatestCore_36) ⟨fun _ => dX6_greatestCore_37, fun q => (by cases q), fun q => (by cases q)⟩))))
def F_Sides_greatestCore : kFn := kF 1 kI s_Sides_greatestCore
theorem c_Sides_greatestCore : kCon yX6_greatestCore cX6_greatestCore 3 (some .int) { frames := 4, cells := 0, slots := 0, locals := 88 } F_Sides_greatestCore := kCon_of kEnds_I (by decide +kernel) (by decide) ⟨0, 0, 0, b_Sides_greatestCore⟩
def s_Sides_countedThrees : kSx :=
  (sSeq (sCall 6 F_Sides_look (eSnoc eNil (eR 0)))
  (sRet 2 (eGet 6 7 (eR 0))))
abbrev M_Sides_countedThrees : kM := (cX6_countedThrees, yX6_countedThrees.cls, 1, { frames := 4, cells := 0, slots := 0, locals := 88 }, (some .long))
set_option maxRecDepth 20000 in
theorem b_Sides_countedThrees : kSt M_Sides_countedThrees 0 0 0 0 s_Sides_countedThrees :=
  (kSt_seq (kSt_call (kEs_snoc kEs_nil (kE_aload_n dX6_countedThrees_0)) dX6_countedThrees_1 c_Sides_look mv_Sides_look lm_RX6_34 ⟨rfl, rfl, by decide, by decide⟩)
  (kSt_ret (tag := 2) (kE_get (kE_aload_n dX6_countedThrees_4) lf_RX6_49 dX6_countedThrees_5) ⟨fun q => (by cases q), fun q => (by cases q), fun _ => dX6_countedThrees_8⟩))
def F_Sides_countedThrees : kFn := kF 1 kJl s_Sides_countedThrees
theorem c_Sides_countedThrees : kCon yX6_countedThrees cX6_countedThrees 1 (some .long) { frames := 4, cells := 0, slots := 0, locals := 88 } F_Sides_countedThrees := kCon_of kEnds_J (by decide +kernel) (by decide) ⟨0, 0, 0, b_Sides_countedThrees⟩
def l_Sides_holds_1 : kSx := sFor 3 (cC 2 (eI 2) (eGet 10 3 (eGet 6 0 (eR 0))))
  (sIf (cOr (cC 1 (eAld 0 (eGet 6 1 (eR 0)) (eBin kAdd (eI 2) (eK (1)))) (eAld 0 (eGet 6 1 (eR 1)) (eBin kAdd (eI 2) (eK (1))))) (cC 1 (eAld 0 (eGet 6 3 (eR 0)) (eI 2)) (eAld 0 (eGet 6 3 (eR 1)) (eI 2)))) (sRet 0 (eK (0))) sSkip)
  (sInc 2 (1))
def s_Sides_holds : kSx :=
  (sSeq (sCall 6 F_Sides_look (eSnoc eNil (eR 0)))
  (sSeq (sCall 6 F_Sides_renew (eSnoc eNil (eR 1)))
  (sSeq (sTrunc 2 (sSeq (sLet 0 2 (eK (0))) l_Sides_holds_1))
  (sRet 0 (eIf (cL 0 (eGet 6 7 (eR 0)) (eGet 6 7 (eR 1))) (eK (1)) (eK (0)))))))
abbrev M_Sides_holds : kM := (cX6_holds, yX6_holds.cls, 3, { frames := 4, cells := 0, slots := 0, locals := 88 }, (some .boolean))
set_option maxRecDepth 20000 in
theorem b_Sides_holds : kSt M_Sides_holds 0 0 0 0 s_Sides_holds :=
  (kSt_seq (kSt_call (kEs_snoc kEs_nil (kE_aload_n dX6_holds_0)) dX6_holds_1 c_Sides_look mv_Sides_look lm_RX6_34 ⟨rfl, rfl, by decide, by decide⟩)
  (kSt_seq (kSt_call (kEs_snoc kEs_nil (kE_aload_n dX6_holds_4)) dX6_holds_5 c_Sides_renew mv_Sides_renew lm_RX6_53 ⟨rfl, rfl, by decide, by decide⟩)
  (kSt_seq (kSt_trunc (kSt_seq (kSt_let (kE_iconst dX6_holds_8 ⟨by decide, by decide⟩) (kSet_istore_n dX6_holds_9 (by decide))) (kSt_for (pu := 57) (pt := 21) (kCd_C (kE_iload_n dX6_holds_10) (kE_get (kE_get (kE_aload_n dX6_holds_11) lf_RX6_30 dX6_holds_12) lf_RX6_37 dX6_holds_15) (kJf_2 (tgt := 63) dX6_holds_18 (by decide))) (kSt_if (kCd_or (kCd_C (kE_iald (kE_get (kE_aload_n dX6_holds_21) lf_RX6_9 dX6_holds_22) (kE_bin (kE_iload_n dX6_holds_25) (kE_iconst dX6_holds_26 ⟨by decide, by decide⟩) (kOp_add dX6_holds_27)) dX6_holds_28) (kE_iald (kE_get (kE_aload_n dX6_holds_29) lf_RX6_9 dX6_holds_30) (kE_bin (kE_iload_n dX6_holds_33) (kE_iconst dX6_holds_34 ⟨by decide, by decide⟩) (kOp_add dX6_holds_35)) dX6_holds_36) (kJt_1 (tgt := 55) dX6_holds_37 (by decide))) (kCd_C (kE_iald (kE_get (kE_aload_n dX6_holds_40) lf_RX6_18 dX6_holds_41) (kE_iload_n dX6_holds_44) dX6_holds_45) (kE_iald (kE_get (kE_aload_n dX6_holds_46) lf_RX6_18 dX6_holds_47) (kE_iload_n dX6_holds_50) dX6_holds_51) (kJf_1 (tgt := 57) dX6_holds_52 (by decide)))) (kSt_ret (tag := 0) (kE_iconst dX6_holds_55 ⟨by decide, by decide⟩) ⟨fun _ => dX6_holds_56, fun q => (by cases q), fun q => (by cases q)⟩) kSt_skip) (kSt_goto (tgt := 10) (kSt_inc dX6_holds_57 (by decide)) dX6_holds_60 (by decide)))))
  (kSt_ret (tag := 0) (kE_if (kCd_L (kE_get (kE_aload_n dX6_holds_63) lf_RX6_49 dX6_holds_64) (kE_get (kE_aload_n dX6_holds_67) lf_RX6_49 dX6_holds_68) dX6_holds_71 (kZf_0 (tgt := 79) dX6_holds_72 (by decide))) (kE_goto (tgt := 80) (kE_iconst dX6_holds_75 ⟨by decide, by decide⟩) dX6_holds_76 (by decide)) (kE_iconst dX6_holds_79 ⟨by decide, by decide⟩)) ⟨fun _ => dX6_holds_80, fun q => (by cases q), fun q => (by cases q)⟩))))
def F_Sides_holds : kFn := kF 2 kZ s_Sides_holds
theorem c_Sides_holds : kCon yX6_holds cX6_holds 3 (some .boolean) { frames := 4, cells := 0, slots := 0, locals := 88 } F_Sides_holds := kCon_of kEnds_Z (by decide +kernel) (by decide) ⟨0, 0, 0, b_Sides_holds⟩
def s_Chosen_weightOf : kSx :=
  (sRet 0 (eAld 0 (eGet 0 1 (eR 0)) (eI 1)))
abbrev M_Chosen_weightOf : kM := (cX0_weightOf, yX0_weightOf.cls, 2, { frames := 0, cells := 0, slots := 0, locals := 0 }, (some .int))
set_option maxRecDepth 20000 in
theorem b_Chosen_weightOf : kSt M_Chosen_weightOf 0 0 0 0 s_Chosen_weightOf :=
  (kSt_ret (tag := 0) (kE_iald (kE_get (kE_aload_n dX0_weightOf_0) lf_RX0_9 dX0_weightOf_1) (kE_iload_n dX0_weightOf_4) dX0_weightOf_5) ⟨fun _ => dX0_weightOf_6, fun q => (by cases q), fun q => (by cases q)⟩)
def F_Chosen_weightOf : kFn := kF 2 kI s_Chosen_weightOf
theorem c_Chosen_weightOf : kCon yX0_weightOf cX0_weightOf 2 (some .int) { frames := 0, cells := 0, slots := 0, locals := 0 } F_Chosen_weightOf := kCon_of kEnds_I (by decide +kernel) (by decide) ⟨0, 0, 0, b_Chosen_weightOf⟩
def s_Chosen_has : kSx :=
  (sRet 0 (eAld 1 (eGet 0 3 (eR 0)) (eI 1)))
abbrev M_Chosen_has : kM := (cX0_has, yX0_has.cls, 2, { frames := 0, cells := 0, slots := 0, locals := 0 }, (some .boolean))
set_option maxRecDepth 20000 in
theorem b_Chosen_has : kSt M_Chosen_has 0 0 0 0 s_Chosen_has :=
  (kSt_ret (tag := 0) (kE_zald (kE_get (kE_aload_n dX0_has_0) lf_RX0_18 dX0_has_1) (kE_iload_n dX0_has_4) dX0_has_5) ⟨fun _ => dX0_has_6, fun q => (by cases q), fun q => (by cases q)⟩)
def F_Chosen_has : kFn := kF 2 kZ s_Chosen_has
theorem c_Chosen_has : kCon yX0_has cX0_has 2 (some .boolean) { frames := 0, cells := 0, slots := 0, locals := 0 } F_Chosen_has := kCon_of kEnds_Z (by decide +kernel) (by decide) ⟨0, 0, 0, b_Chosen_has⟩
def l_Chosen_size_1 : kSx := sFor 3 (cC 2 (eI 2) (eGet 10 3 (eGet 0 0 (eR 0))))
  (sIf (cZ 1 (eAld 1 (eGet 0 3 (eR 0)) (eI 2))) (sInc 1 (1)) sSkip)
  (sInc 2 (1))
def s_Chosen_size : kSx :=
  (sSeq (sLet 0 1 (eK (0)))
  (sSeq (sTrunc 2 (sSeq (sLet 0 2 (eK (0))) l_Chosen_size_1))
  (sRet 0 (eI 1))))
abbrev M_Chosen_size : kM := (cX0_size, yX0_size.cls, 3, { frames := 0, cells := 0, slots := 0, locals := 0 }, (some .int))
set_option maxRecDepth 20000 in
theorem b_Chosen_size : kSt M_Chosen_size 0 0 0 0 s_Chosen_size :=
  (kSt_seq (kSt_let (kE_iconst dX0_size_0 ⟨by decide, by decide⟩) (kSet_istore_n dX0_size_1 (by decide)))
  (kSt_seq (kSt_trunc (kSt_seq (kSt_let (kE_iconst dX0_size_2 ⟨by decide, by decide⟩) (kSet_istore_n dX0_size_3 (by decide))) (kSt_for (pu := 27) (pt := 15) (kCd_C (kE_iload_n dX0_size_4) (kE_get (kE_get (kE_aload_n dX0_size_5) lf_RX0_22 dX0_size_6) lf_RX0_26 dX0_size_9) (kJf_2 (tgt := 33) dX0_size_12 (by decide))) (kSt_if (kCd_Z (kE_zald (kE_get (kE_aload_n dX0_size_15) lf_RX0_18 dX0_size_16) (kE_iload_n dX0_size_19) dX0_size_20) (kZf_1 (tgt := 27) dX0_size_21 (by decide))) (kSt_inc dX0_size_24 (by decide)) kSt_skip) (kSt_goto (tgt := 4) (kSt_inc dX0_size_27 (by decide)) dX0_size_30 (by decide)))))
  (kSt_ret (tag := 0) (kE_iload_n dX0_size_33) ⟨fun _ => dX0_size_34, fun q => (by cases q), fun q => (by cases q)⟩)))
def F_Chosen_size : kFn := kF 1 kI s_Chosen_size
theorem c_Chosen_size : kCon yX0_size cX0_size 3 (some .int) { frames := 0, cells := 0, slots := 0, locals := 0 } F_Chosen_size := kCon_of kEnds_I (by decide +kernel) (by decide) ⟨0, 0, 0, b_Chosen_size⟩
def s_Chosen_isAhead : kSx :=
  (sRet 0 (eIf (cOr (cC 4 (eAld 0 (eGet 0 1 (eR 0)) (eI 1)) (eAld 0 (eGet 0 1 (eR 0)) (eI 2))) (cAnd (cC 0 (eAld 0 (eGet 0 1 (eR 0)) (eI 1)) (eAld 0 (eGet 0 1 (eR 0)) (eI 2))) (cC 2 (eI 1) (eI 2)))) (eK (1)) (eK (0))))
abbrev M_Chosen_isAhead : kM := (cX0_isAhead, yX0_isAhead.cls, 3, { frames := 0, cells := 0, slots := 0, locals := 0 }, (some .boolean))
set_option maxRecDepth 20000 in
theorem b_Chosen_isAhead : kSt M_Chosen_isAhead 0 0 0 0 s_Chosen_isAhead :=
  (kSt_ret (tag := 0) (kE_if (kCd_or (kCd_C (kE_iald (kE_get (kE_aload_n dX0_isAhead_0) lf_RX0_9 dX0_isAhead_1) (kE_iload_n dX0_isAhead_4) dX0_isAhead_5) (kE_iald (kE_get (kE_aload_n dX0_isAhead_6) lf_RX0_9 dX0_isAhead_7) (kE_iload_n dX0_isAhead_10) dX0_isAhead_11) (kJt_4 (tgt := 35) dX0_isAhead_12 (by decide))) (kCd_and (kCd_C (kE_iald (kE_get (kE_aload_n dX0_isAhead_15) lf_RX0_9 dX0_isAhead_16) (kE_iload_n dX0_isAhead_19) dX0_isAhead_20) (kE_iald (kE_get (kE_aload_n dX0_isAhead_21) lf_RX0_9 dX0_isAhead_22) (kE_iload_n dX0_isAhead_25) dX0_isAhead_26) (kJf_0 (tgt := 39) dX0_isAhead_27 (by decide))) (kCd_C (kE_iload_n dX0_isAhead_30) (kE_iload_n dX0_isAhead_31) (kJf_2 (tgt := 39) dX0_isAhead_32 (by decide))))) (kE_goto (tgt := 40) (kE_iconst dX0_isAhead_35 ⟨by decide, by decide⟩) dX0_isAhead_36 (by decide)) (kE_iconst dX0_isAhead_39 ⟨by decide, by decide⟩)) ⟨fun _ => dX0_isAhead_40, fun q => (by cases q), fun q => (by cases q)⟩)
def F_Chosen_isAhead : kFn := kF 3 kZ s_Chosen_isAhead
theorem c_Chosen_isAhead : kCon yX0_isAhead cX0_isAhead 3 (some .boolean) { frames := 0, cells := 0, slots := 0, locals := 0 } F_Chosen_isAhead := kCon_of kEnds_Z (by decide +kernel) (by decide) ⟨0, 0, 0, b_Chosen_isAhead⟩
def l_Chosen_insert_1 : kSx := sFor 5 (cAnd (cZ 3 (eI 4)) (cZ 1 (eCall 0 F_Chosen_isAhead (eSnoc (eSnoc (eSnoc eNil (eR 0)) (eI 1)) (eAld 0 (eGet 0 2 (eR 0)) (eI 4))))))
  (sSeq (sAst 0 (eGet 0 2 (eR 0)) (eBin kAdd (eI 4) (eK (1))) (eAld 0 (eGet 0 2 (eR 0)) (eI 4)))
  (sLet 0 3 (eI 4)))
  (sInc 4 (-1))
def s_Chosen_insert : kSx :=
  (sSeq (sSeq (sLet 0 3 (eI 2))
  (sSeq (sTrunc 4 (sSeq (sLet 0 4 (eBin kSub (eI 2) (eK (1)))) l_Chosen_insert_1))
  (sAst 0 (eGet 0 2 (eR 0)) (eI 3) (eI 1)))) sRetV)
abbrev M_Chosen_insert : kM := (cX0_insert, yX0_insert.cls, 5, { frames := 1, cells := 0, slots := 0, locals := 22 }, none)
set_option maxRecDepth 20000 in
theorem b_Chosen_insert : kSt M_Chosen_insert 0 0 0 0 s_Chosen_insert :=
  (kSt_seq (kSt_seq (kSt_let (kE_iload_n dX0_insert_0) (kSet_istore_n dX0_insert_1 (by decide)))
  (kSt_seq (kSt_trunc (kSt_seq (kSt_let (kE_bin (kE_iload_n dX0_insert_2) (kE_iconst dX0_insert_3 ⟨by decide, by decide⟩) (kOp_sub dX0_insert_4)) (kSet_istore dX0_insert_5 (by decide))) (kSt_for (pu := 46) (pt := 27) (kCd_and (kCd_Z (kE_iload dX0_insert_7) (kZf_3 (tgt := 52) dX0_insert_9 (by decide))) (kCd_Z (kE_call (kEs_snoc (kEs_snoc (kEs_snoc kEs_nil (kE_aload_n dX0_insert_12)) (kE_iload_n dX0_insert_13)) (kE_iald (kE_get (kE_aload_n dX0_insert_14) lf_RX0_15 dX0_insert_15) (kE_iload dX0_insert_18) dX0_insert_20)) dX0_insert_21 c_Chosen_isAhead mv_Chosen_isAhead lm_RX0_44 ⟨rfl, rfl, by decide, by decide⟩ (by decide)) (kZf_1 (tgt := 52) dX0_insert_24 (by decide)))) (kSt_seq (kSt_iast (kE_get (kE_aload_n dX0_insert_27) lf_RX0_15 dX0_insert_28) (kE_bin (kE_iload dX0_insert_31) (kE_iconst dX0_insert_33 ⟨by decide, by decide⟩) (kOp_add dX0_insert_34)) (kE_iald (kE_get (kE_aload_n dX0_insert_35) lf_RX0_15 dX0_insert_36) (kE_iload dX0_insert_39) dX0_insert_41) dX0_insert_42)
  (kSt_let (kE_iload dX0_insert_43) (kSet_istore_n dX0_insert_45 (by decide)))) (kSt_goto (tgt := 7) (kSt_inc dX0_insert_46 (by decide)) dX0_insert_49 (by decide)))))
  (kSt_iast (kE_get (kE_aload_n dX0_insert_52) lf_RX0_15 dX0_insert_53) (kE_iload_n dX0_insert_56) (kE_iload_n dX0_insert_57) dX0_insert_58))) (kSt_retV dX0_insert_59))
def F_Chosen_insert : kFn := kF 3 kN s_Chosen_insert
theorem c_Chosen_insert : kCon yX0_insert cX0_insert 5 none { frames := 1, cells := 0, slots := 0, locals := 22 } F_Chosen_insert := kCon_of kEnds_V (by decide +kernel) (by decide) ⟨0, 0, 0, b_Chosen_insert⟩
def s_Chosen_nodeAdded : kSx :=
  (sSeq (sSeq (sAst 0 (eGet 0 1 (eR 0)) (eI 1) (eI 2))
  (sSeq (sCall 0 F_Chosen_insert (eSnoc (eSnoc (eSnoc eNil (eR 0)) (eI 1)) (eI 1)))
  (sAst 1 (eGet 0 3 (eR 0)) (eI 1) (eK (1))))) sRetV)
abbrev M_Chosen_nodeAdded : kM := (cX0_nodeAdded, yX0_nodeAdded.cls, 3, { frames := 2, cells := 0, slots := 0, locals := 46 }, none)
set_option maxRecDepth 20000 in
theorem b_Chosen_nodeAdded : kSt M_Chosen_nodeAdded 0 0 0 0 s_Chosen_nodeAdded :=
  (kSt_seq (kSt_seq (kSt_iast (kE_get (kE_aload_n dX0_nodeAdded_0) lf_RX0_9 dX0_nodeAdded_1) (kE_iload_n dX0_nodeAdded_4) (kE_iload_n dX0_nodeAdded_5) dX0_nodeAdded_6)
  (kSt_seq (kSt_call (kEs_snoc (kEs_snoc (kEs_snoc kEs_nil (kE_aload_n dX0_nodeAdded_7)) (kE_iload_n dX0_nodeAdded_8)) (kE_iload_n dX0_nodeAdded_9)) dX0_nodeAdded_10 c_Chosen_insert mv_Chosen_insert lm_RX0_32 ⟨rfl, rfl, by decide, by decide⟩)
  (kSt_zast (kE_get (kE_aload_n dX0_nodeAdded_13) lf_RX0_18 dX0_nodeAdded_14) (kE_iload_n dX0_nodeAdded_17) (kE_iconst dX0_nodeAdded_18 ⟨by decide, by decide⟩) dX0_nodeAdded_19))) (kSt_retV dX0_nodeAdded_20))
def F_Chosen_nodeAdded : kFn := kF 3 kN s_Chosen_nodeAdded
theorem c_Chosen_nodeAdded : kCon yX0_nodeAdded cX0_nodeAdded 3 none { frames := 2, cells := 0, slots := 0, locals := 46 } F_Chosen_nodeAdded := kCon_of kEnds_V (by decide +kernel) (by decide) ⟨0, 0, 0, b_Chosen_nodeAdded⟩
def l_Chosen_isFree_1 : kSx := sFor 4 (cC 2 (eI 3) (eI 2))
  (sTrunc 4 (sSeq (sLet 0 4 (eCall 10 F_Web_other (eSnoc (eSnoc (eSnoc eNil (eGet 0 0 (eR 0))) (eCall 10 F_Web_arcAt (eSnoc (eSnoc (eSnoc eNil (eGet 0 0 (eR 0))) (eI 1)) (eI 3)))) (eI 1))))
  (sIf (cAnd (cZ 1 (eAld 1 (eGet 0 3 (eR 0)) (eI 4))) (cZ 1 (eCall 0 F_Chosen_isAhead (eSnoc (eSnoc (eSnoc eNil (eR 0)) (eI 4)) (eI 1))))) (sRet 0 (eK (0))) sSkip)))
  (sInc 3 (1))
def s_Chosen_isFree : kSx :=
  (sSeq (sLet 0 2 (eCall 10 F_Web_degree (eSnoc (eSnoc eNil (eGet 0 0 (eR 0))) (eI 1))))
  (sSeq (sTrunc 3 (sSeq (sLet 0 3 (eK (0))) l_Chosen_isFree_1))
  (sRet 0 (eK (1)))))
abbrev M_Chosen_isFree : kM := (cX0_isFree, yX0_isFree.cls, 5, { frames := 1, cells := 0, slots := 0, locals := 23 }, (some .boolean))
set_option maxRecDepth 20000 in
theorem b_Chosen_isFree : kSt M_Chosen_isFree 0 0 0 0 s_Chosen_isFree :=
  (kSt_seq (kSt_let (kE_call (kEs_snoc (kEs_snoc kEs_nil (kE_get (kE_aload_n dX0_isFree_0) lf_RX0_22 dX0_isFree_1)) (kE_iload_n dX0_isFree_4)) dX0_isFree_5 c_Web_degree mv_Web_degree lm_RX0_52 ⟨rfl, rfl, by decide, by decide⟩ (by decide)) (kSet_istore_n dX0_isFree_8 (by decide)))
  (kSt_seq (kSt_trunc (kSt_seq (kSt_let (kE_iconst dX0_isFree_9 ⟨by decide, by decide⟩) (kSet_istore_n dX0_isFree_10 (by decide))) (kSt_for (pu := 57) (pt := 16) (kCd_C (kE_iload_n dX0_isFree_11) (kE_iload_n dX0_isFree_12) (kJf_2 (tgt := 63) dX0_isFree_13 (by decide))) (kSt_trunc (kSt_seq (kSt_let (kE_call (kEs_snoc (kEs_snoc (kEs_snoc kEs_nil (kE_get (kE_aload_n dX0_isFree_16) lf_RX0_22 dX0_isFree_17)) (kE_call (kEs_snoc (kEs_snoc (kEs_snoc kEs_nil (kE_get (kE_aload_n dX0_isFree_20) lf_RX0_22 dX0_isFree_21)) (kE_iload_n dX0_isFree_24)) (kE_iload_n dX0_isFree_25)) dX0_isFree_26 c_Web_arcAt mv_Web_arcAt lm_RX0_56 ⟨rfl, rfl, by decide, by decide⟩ (by decide))) (kE_iload_n dX0_isFree_29)) dX0_isFree_30 c_Web_other mv_Web_other lm_RX0_60 ⟨rfl, rfl, by decide, by decide⟩ (by decide)) (kSet_istore dX0_isFree_33 (by decide)))
  (kSt_if (kCd_and (kCd_Z (kE_zald (kE_get (kE_aload_n dX0_isFree_35) lf_RX0_18 dX0_isFree_36) (kE_iload dX0_isFree_39) dX0_isFree_41) (kZf_1 (tgt := 57) dX0_isFree_42 (by decide))) (kCd_Z (kE_call (kEs_snoc (kEs_snoc (kEs_snoc kEs_nil (kE_aload_n dX0_isFree_45)) (kE_iload dX0_isFree_46)) (kE_iload_n dX0_isFree_48)) dX0_isFree_49 c_Chosen_isAhead mv_Chosen_isAhead lm_RX0_44 ⟨rfl, rfl, by decide, by decide⟩ (by decide)) (kZf_1 (tgt := 57) dX0_isFree_52 (by decide)))) (kSt_ret (tag := 0) (kE_iconst dX0_isFree_55 ⟨by decide, by decide⟩) ⟨fun _ => dX0_isFree_56, fun q => (by cases q), fun q => (by cases q)⟩) kSt_skip))) (kSt_goto (tgt := 11) (kSt_inc dX0_isFree_57 (by decide)) dX0_isFree_60 (by decide)))))
  (kSt_ret (tag := 0) (kE_iconst dX0_isFree_63 ⟨by decide, by decide⟩) ⟨fun _ => dX0_isFree_64, fun q => (by cases q), fun q => (by cases q)⟩)))
def F_Chosen_isFree : kFn := kF 2 kZ s_Chosen_isFree
theorem c_Chosen_isFree : kCon yX0_isFree cX0_isFree 5 (some .boolean) { frames := 1, cells := 0, slots := 0, locals := 23 } F_Chosen_isFree := kCon_of kEnds_Z (by decide +kernel) (by decide) ⟨0, 0, 0, b_Chosen_isFree⟩
def l_Chosen_renew_1 : kSx := sFor 3 (cC 2 (eI 2) (eGet 10 3 (eGet 0 0 (eR 0))))
  (sTrunc 3 (sSeq (sLet 0 3 (eAld 0 (eGet 0 2 (eR 0)) (eI 2)))
  (sSeq (sLet 0 4 (eCall 0 F_Chosen_isFree (eSnoc (eSnoc eNil (eR 0)) (eI 3))))
  (sIf (cC 1 (eAld 1 (eGet 0 3 (eR 0)) (eI 3)) (eI 4)) (sSeq (sAst 1 (eGet 0 3 (eR 0)) (eI 3) (eI 4))
  (sInc 1 (1))) sSkip))))
  (sInc 2 (1))
def s_Chosen_renew : kSx :=
  (sSeq (sLet 0 1 (eK (0)))
  (sSeq (sTrunc 2 (sSeq (sLet 0 2 (eK (0))) l_Chosen_renew_1))
  (sRet 0 (eI 1))))
abbrev M_Chosen_renew : kM := (cX0_renew, yX0_renew.cls, 5, { frames := 2, cells := 0, slots := 0, locals := 47 }, (some .int))
set_option maxRecDepth 20000 in
theorem b_Chosen_renew : kSt M_Chosen_renew 0 0 0 0 s_Chosen_renew :=
  (kSt_seq (kSt_let (kE_iconst dX0_renew_0 ⟨by decide, by decide⟩) (kSet_istore_n dX0_renew_1 (by decide)))
  (kSt_seq (kSt_trunc (kSt_seq (kSt_let (kE_iconst dX0_renew_2 ⟨by decide, by decide⟩) (kSet_istore_n dX0_renew_3 (by decide))) (kSt_for (pu := 51) (pt := 15) (kCd_C (kE_iload_n dX0_renew_4) (kE_get (kE_get (kE_aload_n dX0_renew_5) lf_RX0_22 dX0_renew_6) lf_RX0_26 dX0_renew_9) (kJf_2 (tgt := 57) dX0_renew_12 (by decide))) (kSt_trunc (kSt_seq (kSt_let (kE_iald (kE_get (kE_aload_n dX0_renew_15) lf_RX0_15 dX0_renew_16) (kE_iload_n dX0_renew_19) dX0_renew_20) (kSet_istore_n dX0_renew_21 (by decide)))
  (kSt_seq (kSt_let (kE_call (kEs_snoc (kEs_snoc kEs_nil (kE_aload_n dX0_renew_22)) (kE_iload_n dX0_renew_23)) dX0_renew_24 c_Chosen_isFree mv_Chosen_isFree lm_RX0_48 ⟨rfl, rfl, by decide, by decide⟩ (by decide)) (kSet_istore dX0_renew_27 (by decide)))
  (kSt_if (kCd_C (kE_zald (kE_get (kE_aload_n dX0_renew_29) lf_RX0_18 dX0_renew_30) (kE_iload_n dX0_renew_33) dX0_renew_34) (kE_iload dX0_renew_35) (kJf_1 (tgt := 51) dX0_renew_37 (by decide))) (kSt_seq (kSt_zast (kE_get (kE_aload_n dX0_renew_40) lf_RX0_18 dX0_renew_41) (kE_iload_n dX0_renew_44) (kE_iload dX0_renew_45) dX0_renew_47)
  (kSt_inc dX0_renew_48 (by decide))) kSt_skip)))) (kSt_goto (tgt := 4) (kSt_inc dX0_renew_51 (by decide)) dX0_renew_54 (by decide)))))
  (kSt_ret (tag := 0) (kE_iload_n dX0_renew_57) ⟨fun _ => dX0_renew_58, fun q => (by cases q), fun q => (by cases q)⟩)))
def F_Chosen_renew : kFn := kF 1 kI s_Chosen_renew
theorem c_Chosen_renew : kCon yX0_renew cX0_renew 5 (some .int) { frames := 2, cells := 0, slots := 0, locals := 47 } F_Chosen_renew := kCon_of kEnds_I (by decide +kernel) (by decide) ⟨0, 0, 0, b_Chosen_renew⟩
def s_Chosen_reweigh : kSx :=
  (sSeq (sLet 0 3 (eCallS F_KP_leaveOut (eSnoc (eSnoc (eSnoc eNil (eGet 0 2 (eR 0))) (eGet 10 3 (eGet 0 0 (eR 0)))) (eI 1))))
  (sSeq (sAst 0 (eGet 0 1 (eR 0)) (eI 1) (eI 2))
  (sSeq (sCall 0 F_Chosen_insert (eSnoc (eSnoc (eSnoc eNil (eR 0)) (eI 1)) (eI 3)))
  (sRet 0 (eCall 0 F_Chosen_renew (eSnoc eNil (eR 0)))))))
abbrev M_Chosen_reweigh : kM := (cX0_reweigh, yX0_reweigh.cls, 4, { frames := 3, cells := 0, slots := 0, locals := 71 }, (some .int))
set_option maxRecDepth 20000 in
theorem b_Chosen_reweigh : kSt M_Chosen_reweigh 0 0 0 0 s_Chosen_reweigh :=
  (kSt_seq (kSt_let (kE_callN (kEs_snoc (kEs_snoc (kEs_snoc kEs_nil (kE_get (kE_aload_n dX0_reweigh_0) lf_RX0_15 dX0_reweigh_1)) (kE_get (kE_get (kE_aload_n dX0_reweigh_4) lf_RX0_22 dX0_reweigh_5) lf_RX0_26 dX0_reweigh_8)) (kE_iload_n dX0_reweigh_11)) dX0_reweigh_12 c_KP_leaveOut mv_KP_leaveOut lm_RX0_36 ⟨rfl, rfl, by decide, by decide⟩ (by decide)) (kSet_istore_n dX0_reweigh_15 (by decide)))
  (kSt_seq (kSt_iast (kE_get (kE_aload_n dX0_reweigh_16) lf_RX0_9 dX0_reweigh_17) (kE_iload_n dX0_reweigh_20) (kE_iload_n dX0_reweigh_21) dX0_reweigh_22)
  (kSt_seq (kSt_call (kEs_snoc (kEs_snoc (kEs_snoc kEs_nil (kE_aload_n dX0_reweigh_23)) (kE_iload_n dX0_reweigh_24)) (kE_iload_n dX0_reweigh_25)) dX0_reweigh_26 c_Chosen_insert mv_Chosen_insert lm_RX0_32 ⟨rfl, rfl, by decide, by decide⟩)
  (kSt_ret (tag := 0) (kE_call (kEs_snoc kEs_nil (kE_aload_n dX0_reweigh_29)) dX0_reweigh_30 c_Chosen_renew mv_Chosen_renew lm_RX0_40 ⟨rfl, rfl, by decide, by decide⟩ (by decide)) ⟨fun _ => dX0_reweigh_33, fun q => (by cases q), fun q => (by cases q)⟩))))
def F_Chosen_reweigh : kFn := kF 3 kI s_Chosen_reweigh
theorem c_Chosen_reweigh : kCon yX0_reweigh cX0_reweigh 4 (some .int) { frames := 3, cells := 0, slots := 0, locals := 71 } F_Chosen_reweigh := kCon_of kEnds_I (by decide +kernel) (by decide) ⟨0, 0, 0, b_Chosen_reweigh⟩
def s_Chosen_arcChanged : kSx :=
  (sSeq (sLet 0 3 (eIf (cZ 1 (eCall 0 F_Chosen_isAhead (eSnoc (eSnoc (eSnoc eNil (eR 0)) (eI 1)) (eI 2)))) (eI 2) (eI 1)))
  (sRet 0 (eIf (cC 0 (eAld 1 (eGet 0 3 (eR 0)) (eI 3)) (eCall 0 F_Chosen_isFree (eSnoc (eSnoc eNil (eR 0)) (eI 3)))) (eK (0)) (eCall 0 F_Chosen_renew (eSnoc eNil (eR 0))))))
abbrev M_Chosen_arcChanged : kM := (cX0_arcChanged, yX0_arcChanged.cls, 4, { frames := 3, cells := 0, slots := 0, locals := 71 }, (some .int))
set_option maxRecDepth 20000 in
theorem b_Chosen_arcChanged : kSt M_Chosen_arcChanged 0 0 0 0 s_Chosen_arcChanged :=
  (kSt_seq (kSt_let (kE_if (kCd_Z (kE_call (kEs_snoc (kEs_snoc (kEs_snoc kEs_nil (kE_aload_n dX0_arcChanged_0)) (kE_iload_n dX0_arcChanged_1)) (kE_iload_n dX0_arcChanged_2)) dX0_arcChanged_3 c_Chosen_isAhead mv_Chosen_isAhead lm_RX0_44 ⟨rfl, rfl, by decide, by decide⟩ (by decide)) (kZf_1 (tgt := 13) dX0_arcChanged_6 (by decide))) (kE_goto (tgt := 14) (kE_iload_n dX0_arcChanged_9) dX0_arcChanged_10 (by decide)) (kE_iload_n dX0_arcChanged_13)) (kSet_istore_n dX0_arcChanged_14 (by decide)))
  (kSt_ret (tag := 0) (kE_if (kCd_C (kE_zald (kE_get (kE_aload_n dX0_arcChanged_15) lf_RX0_18 dX0_arcChanged_16) (kE_iload_n dX0_arcChanged_19) dX0_arcChanged_20) (kE_call (kEs_snoc (kEs_snoc kEs_nil (kE_aload_n dX0_arcChanged_21)) (kE_iload_n dX0_arcChanged_22)) dX0_arcChanged_23 c_Chosen_isFree mv_Chosen_isFree lm_RX0_48 ⟨rfl, rfl, by decide, by decide⟩ (by decide)) (kJf_0 (tgt := 33) dX0_arcChanged_26 (by decide))) (kE_goto (tgt := 37) (kE_iconst dX0_arcChanged_29 ⟨by decide, by decide⟩) dX0_arcChanged_30 (by decide)) (kE_call (kEs_snoc kEs_nil (kE_aload_n dX0_arcChanged_33)) dX0_arcChanged_34 c_Chosen_renew mv_Chosen_renew lm_RX0_40 ⟨rfl, rfl, by decide, by decide⟩ (by decide))) ⟨fun _ => dX0_arcChanged_37, fun q => (by cases q), fun q => (by cases q)⟩))
def F_Chosen_arcChanged : kFn := kF 3 kI s_Chosen_arcChanged
theorem c_Chosen_arcChanged : kCon yX0_arcChanged cX0_arcChanged 4 (some .int) { frames := 3, cells := 0, slots := 0, locals := 71 } F_Chosen_arcChanged := kCon_of kEnds_I (by decide +kernel) (by decide) ⟨0, 0, 0, b_Chosen_arcChanged⟩
def l_Chosen_holds_1 : kSx := sFor 2 (cC 2 (eI 1) (eGet 10 3 (eGet 0 0 (eR 0))))
  (sIf (cC 1 (eAld 1 (eGet 0 3 (eR 0)) (eI 1)) (eCall 0 F_Chosen_isFree (eSnoc (eSnoc eNil (eR 0)) (eI 1)))) (sRet 0 (eK (0))) sSkip)
  (sInc 1 (1))
def s_Chosen_holds : kSx :=
  (sSeq (sTrunc 1 (sSeq (sLet 0 1 (eK (0))) l_Chosen_holds_1))
  (sRet 0 (eK (1))))
abbrev M_Chosen_holds : kM := (cX0_holds, yX0_holds.cls, 2, { frames := 2, cells := 0, slots := 0, locals := 47 }, (some .boolean))
set_option maxRecDepth 20000 in
theorem b_Chosen_holds : kSt M_Chosen_holds 0 0 0 0 s_Chosen_holds :=
  (kSt_seq (kSt_trunc (kSt_seq (kSt_let (kE_iconst dX0_holds_0 ⟨by decide, by decide⟩) (kSet_istore_n dX0_holds_1 (by decide))) (kSt_for (pu := 29) (pt := 13) (kCd_C (kE_iload_n dX0_holds_2) (kE_get (kE_get (kE_aload_n dX0_holds_3) lf_RX0_22 dX0_holds_4) lf_RX0_26 dX0_holds_7) (kJf_2 (tgt := 35) dX0_holds_10 (by decide))) (kSt_if (kCd_C (kE_zald (kE_get (kE_aload_n dX0_holds_13) lf_RX0_18 dX0_holds_14) (kE_iload_n dX0_holds_17) dX0_holds_18) (kE_call (kEs_snoc (kEs_snoc kEs_nil (kE_aload_n dX0_holds_19)) (kE_iload_n dX0_holds_20)) dX0_holds_21 c_Chosen_isFree mv_Chosen_isFree lm_RX0_48 ⟨rfl, rfl, by decide, by decide⟩ (by decide)) (kJf_1 (tgt := 29) dX0_holds_24 (by decide))) (kSt_ret (tag := 0) (kE_iconst dX0_holds_27 ⟨by decide, by decide⟩) ⟨fun _ => dX0_holds_28, fun q => (by cases q), fun q => (by cases q)⟩) kSt_skip) (kSt_goto (tgt := 2) (kSt_inc dX0_holds_29 (by decide)) dX0_holds_32 (by decide)))))
  (kSt_ret (tag := 0) (kE_iconst dX0_holds_35 ⟨by decide, by decide⟩) ⟨fun _ => dX0_holds_36, fun q => (by cases q), fun q => (by cases q)⟩))
def F_Chosen_holds : kFn := kF 1 kZ s_Chosen_holds
theorem c_Chosen_holds : kCon yX0_holds cX0_holds 2 (some .boolean) { frames := 2, cells := 0, slots := 0, locals := 47 } F_Chosen_holds := kCon_of kEnds_Z (by decide +kernel) (by decide) ⟨0, 0, 0, b_Chosen_holds⟩
def s_Plan_isFull : kSx :=
  (sRet 0 (eIf (cC 3 (eGet 4 0 (eR 0)) (eK (60))) (eK (1)) (eK (0))))
abbrev M_Plan_isFull : kM := (cX4_isFull, yX4_isFull.cls, 1, { frames := 0, cells := 0, slots := 0, locals := 0 }, (some .boolean))
set_option maxRecDepth 20000 in
theorem b_Plan_isFull : kSt M_Plan_isFull 0 0 0 0 s_Plan_isFull :=
  (kSt_ret (tag := 0) (kE_if (kCd_C (kE_get (kE_aload_n dX4_isFull_0) lf_RX4_45 dX4_isFull_1) (kE_bipush dX4_isFull_4 (by rfl) ⟨by decide, by decide⟩) (kJf_3 (tgt := 13) dX4_isFull_6 (by decide))) (kE_goto (tgt := 14) (kE_iconst dX4_isFull_9 ⟨by decide, by decide⟩) dX4_isFull_10 (by decide)) (kE_iconst dX4_isFull_13 ⟨by decide, by decide⟩)) ⟨fun _ => dX4_isFull_14, fun q => (by cases q), fun q => (by cases q)⟩)
def F_Plan_isFull : kFn := kF 1 kZ s_Plan_isFull
theorem c_Plan_isFull : kCon yX4_isFull cX4_isFull 1 (some .boolean) { frames := 0, cells := 0, slots := 0, locals := 0 } F_Plan_isFull := kCon_of kEnds_Z (by decide +kernel) (by decide) ⟨0, 0, 0, b_Plan_isFull⟩
def s_Plan_puts : kSx :=
  (sRet 0 (eIf (cAnd (cAnd (cZ 3 (eI 1)) (cC 2 (eI 1) (eGet 4 0 (eR 0)))) (cZ 1 (eAld 1 (eGet 4 4 (eR 0)) (eI 1)))) (eK (1)) (eK (0))))
abbrev M_Plan_puts : kM := (cX4_puts, yX4_puts.cls, 2, { frames := 0, cells := 0, slots := 0, locals := 0 }, (some .boolean))
set_option maxRecDepth 20000 in
theorem b_Plan_puts : kSt M_Plan_puts 0 0 0 0 s_Plan_puts :=
  (kSt_ret (tag := 0) (kE_if (kCd_and (kCd_and (kCd_Z (kE_iload_n dX4_puts_0) (kZf_3 (tgt := 25) dX4_puts_1 (by decide))) (kCd_C (kE_iload_n dX4_puts_4) (kE_get (kE_aload_n dX4_puts_5) lf_RX4_45 dX4_puts_6) (kJf_2 (tgt := 25) dX4_puts_9 (by decide)))) (kCd_Z (kE_zald (kE_get (kE_aload_n dX4_puts_12) lf_RX4_15 dX4_puts_13) (kE_iload_n dX4_puts_16) dX4_puts_17) (kZf_1 (tgt := 25) dX4_puts_18 (by decide)))) (kE_goto (tgt := 26) (kE_iconst dX4_puts_21 ⟨by decide, by decide⟩) dX4_puts_22 (by decide)) (kE_iconst dX4_puts_25 ⟨by decide, by decide⟩)) ⟨fun _ => dX4_puts_26, fun q => (by cases q), fun q => (by cases q)⟩)
def F_Plan_puts : kFn := kF 2 kZ s_Plan_puts
theorem c_Plan_puts : kCon yX4_puts cX4_puts 2 (some .boolean) { frames := 0, cells := 0, slots := 0, locals := 0 } F_Plan_puts := kCon_of kEnds_Z (by decide +kernel) (by decide) ⟨0, 0, 0, b_Plan_puts⟩
def s_Plan_takes : kSx :=
  (sRet 0 (eIf (cZ 3 (eI 1)) (eIf (cC 1 (eAld 0 (eGet 4 7 (eR 0)) (eI 1)) (eK (-1))) (eK (1)) (eK (0))) (eIf (cC 1 (eAld 0 (eGet 4 8 (eR 0)) (eBin kSub (eK (-1)) (eI 1))) (eK (-1))) (eK (1)) (eK (0)))))
abbrev M_Plan_takes : kM := (cX4_takes, yX4_takes.cls, 2, { frames := 0, cells := 0, slots := 0, locals := 0 }, (some .boolean))
set_option maxRecDepth 20000 in
theorem b_Plan_takes : kSt M_Plan_takes 0 0 0 0 s_Plan_takes :=
  (kSt_ret (tag := 0) (kE_if (kCd_Z (kE_iload_n dX4_takes_0) (kZf_3 (tgt := 22) dX4_takes_1 (by decide))) (kE_if (kCd_C (kE_iald (kE_get (kE_aload_n dX4_takes_4) lf_RX4_25 dX4_takes_5) (kE_iload_n dX4_takes_8) dX4_takes_9) (kE_iconst dX4_takes_10 ⟨by decide, by decide⟩) (kJf_1 (tgt := 18) dX4_takes_11 (by decide))) (kE_goto (tgt := 39) (kE_iconst dX4_takes_14 ⟨by decide, by decide⟩) dX4_takes_15 (by decide)) (kE_goto (tgt := 39) (kE_iconst dX4_takes_18 ⟨by decide, by decide⟩) dX4_takes_19 (by decide))) (kE_if (kCd_C (kE_iald (kE_get (kE_aload_n dX4_takes_22) lf_RX4_28 dX4_takes_23) (kE_bin (kE_iconst dX4_takes_26 ⟨by decide, by decide⟩) (kE_iload_n dX4_takes_27) (kOp_sub dX4_takes_28)) dX4_takes_29) (kE_iconst dX4_takes_30 ⟨by decide, by decide⟩) (kJf_1 (tgt := 38) dX4_takes_31 (by decide))) (kE_goto (tgt := 39) (kE_iconst dX4_takes_34 ⟨by decide, by decide⟩) dX4_takes_35 (by decide)) (kE_iconst dX4_takes_38 ⟨by decide, by decide⟩))) ⟨fun _ => dX4_takes_39, fun q => (by cases q), fun q => (by cases q)⟩)
def F_Plan_takes : kFn := kF 2 kZ s_Plan_takes
theorem c_Plan_takes : kCon yX4_takes cX4_takes 2 (some .boolean) { frames := 0, cells := 0, slots := 0, locals := 0 } F_Plan_takes := kCon_of kEnds_Z (by decide +kernel) (by decide) ⟨0, 0, 0, b_Plan_takes⟩
def s_Plan_addPut : kSx :=
  (sSeq (sLet 0 3 (eGet 4 0 (eR 0)))
  (sSeq (sAst 1 (eGet 4 4 (eR 0)) (eI 3) (eK (1)))
  (sSeq (sAst 0 (eGet 4 5 (eR 0)) (eI 3) (eI 1))
  (sSeq (sAst 0 (eGet 4 6 (eR 0)) (eI 3) (eI 2))
  (sSeq (sPutOp 4 0 (eR 0) kAdd (eK (1)))
  (sRet 0 (eI 3)))))))
abbrev M_Plan_addPut : kM := (cX4_addPut, yX4_addPut.cls, 4, { frames := 0, cells := 0, slots := 0, locals := 0 }, (some .int))
set_option maxRecDepth 20000 in
theorem b_Plan_addPut : kSt M_Plan_addPut 0 0 0 0 s_Plan_addPut :=
  (kSt_seq (kSt_let (kE_get (kE_aload_n dX4_addPut_0) lf_RX4_45 dX4_addPut_1) (kSet_istore_n dX4_addPut_4 (by decide)))
  (kSt_seq (kSt_zast (kE_get (kE_aload_n dX4_addPut_5) lf_RX4_15 dX4_addPut_6) (kE_iload_n dX4_addPut_9) (kE_iconst dX4_addPut_10 ⟨by decide, by decide⟩) dX4_addPut_11)
  (kSt_seq (kSt_iast (kE_get (kE_aload_n dX4_addPut_12) lf_RX4_19 dX4_addPut_13) (kE_iload_n dX4_addPut_16) (kE_iload_n dX4_addPut_17) dX4_addPut_18)
  (kSt_seq (kSt_iast (kE_get (kE_aload_n dX4_addPut_19) lf_RX4_22 dX4_addPut_20) (kE_iload_n dX4_addPut_23) (kE_iload_n dX4_addPut_24) dX4_addPut_25)
  (kSt_seq (kSt_putOp (kE_aload_n dX4_addPut_26) dX4_addPut_27 lf_RX4_45 dX4_addPut_28 (kE_iconst dX4_addPut_31 ⟨by decide, by decide⟩) (kOp_add dX4_addPut_32) lp_RX4_45 dX4_addPut_33)
  (kSt_ret (tag := 0) (kE_iload_n dX4_addPut_36) ⟨fun _ => dX4_addPut_37, fun q => (by cases q), fun q => (by cases q)⟩))))))
def F_Plan_addPut : kFn := kF 3 kI s_Plan_addPut
theorem c_Plan_addPut : kCon yX4_addPut cX4_addPut 4 (some .int) { frames := 0, cells := 0, slots := 0, locals := 0 } F_Plan_addPut := kCon_of kEnds_I (by decide +kernel) (by decide) ⟨0, 0, 0, b_Plan_addPut⟩
def s_Plan_setTaker : kSx :=
  (sSeq (sIf (cZ 3 (eI 1)) (sAst 0 (eGet 4 7 (eR 0)) (eI 1) (eI 2))
  (sAst 0 (eGet 4 8 (eR 0)) (eBin kSub (eK (-1)) (eI 1)) (eI 2))) sRetV)
abbrev M_Plan_setTaker : kM := (cX4_setTaker, yX4_setTaker.cls, 3, { frames := 0, cells := 0, slots := 0, locals := 0 }, none)
set_option maxRecDepth 20000 in
theorem b_Plan_setTaker : kSt M_Plan_setTaker 0 0 0 0 s_Plan_setTaker :=
  (kSt_seq (kSt_if (kCd_Z (kE_iload_n dX4_setTaker_0) (kZf_3 (tgt := 14) dX4_setTaker_1 (by decide))) (kSt_goto (tgt := 23) (kSt_iast (kE_get (kE_aload_n dX4_setTaker_4) lf_RX4_25 dX4_setTaker_5) (kE_iload_n dX4_setTaker_8) (kE_iload_n dX4_setTaker_9) dX4_setTaker_10) dX4_setTaker_11 (by decide))
  (kSt_iast (kE_get (kE_aload_n dX4_setTaker_14) lf_RX4_28 dX4_setTaker_15) (kE_bin (kE_iconst dX4_setTaker_18 ⟨by decide, by decide⟩) (kE_iload_n dX4_setTaker_19) (kOp_sub dX4_setTaker_20)) (kE_iload_n dX4_setTaker_21) dX4_setTaker_22)) (kSt_retV dX4_setTaker_23))
def F_Plan_setTaker : kFn := kF 3 kN s_Plan_setTaker
theorem c_Plan_setTaker : kCon yX4_setTaker cX4_setTaker 3 none { frames := 0, cells := 0, slots := 0, locals := 0 } F_Plan_setTaker := kCon_of kEnds_V (by decide +kernel) (by decide) ⟨0, 0, 0, b_Plan_setTaker⟩
def s_Plan_addTake : kSx :=
  (sSeq (sLet 0 2 (eGet 4 0 (eR 0)))
  (sSeq (sAst 1 (eGet 4 4 (eR 0)) (eI 2) (eK (0)))
  (sSeq (sAst 0 (eGet 4 3 (eR 0)) (eI 2) (eI 1))
  (sSeq (sCall 4 F_Plan_setTaker (eSnoc (eSnoc (eSnoc eNil (eR 0)) (eI 1)) (eI 2)))
  (sSeq (sPutOp 4 0 (eR 0) kAdd (eK (1)))
  (sRet 0 (eI 2)))))))
abbrev M_Plan_addTake : kM := (cX4_addTake, yX4_addTake.cls, 3, { frames := 1, cells := 0, slots := 0, locals := 22 }, (some .int))
set_option maxRecDepth 20000 in
theorem b_Plan_addTake : kSt M_Plan_addTake 0 0 0 0 s_Plan_addTake :=
  (kSt_seq (kSt_let (kE_get (kE_aload_n dX4_addTake_0) lf_RX4_45 dX4_addTake_1) (kSet_istore_n dX4_addTake_4 (by decide)))
  (kSt_seq (kSt_zast (kE_get (kE_aload_n dX4_addTake_5) lf_RX4_15 dX4_addTake_6) (kE_iload_n dX4_addTake_9) (kE_iconst dX4_addTake_10 ⟨by decide, by decide⟩) dX4_addTake_11)
  (kSt_seq (kSt_iast (kE_get (kE_aload_n dX4_addTake_12) lf_RX4_9 dX4_addTake_13) (kE_iload_n dX4_addTake_16) (kE_iload_n dX4_addTake_17) dX4_addTake_18)
  (kSt_seq (kSt_call (kEs_snoc (kEs_snoc (kEs_snoc kEs_nil (kE_aload_n dX4_addTake_19)) (kE_iload_n dX4_addTake_20)) (kE_iload_n dX4_addTake_21)) dX4_addTake_22 c_Plan_setTaker mv_Plan_setTaker lm_RX4_49 ⟨rfl, rfl, by decide, by decide⟩)
  (kSt_seq (kSt_putOp (kE_aload_n dX4_addTake_25) dX4_addTake_26 lf_RX4_45 dX4_addTake_27 (kE_iconst dX4_addTake_30 ⟨by decide, by decide⟩) (kOp_add dX4_addTake_31) lp_RX4_45 dX4_addTake_32)
  (kSt_ret (tag := 0) (kE_iload_n dX4_addTake_35) ⟨fun _ => dX4_addTake_36, fun q => (by cases q), fun q => (by cases q)⟩))))))
def F_Plan_addTake : kFn := kF 2 kI s_Plan_addTake
theorem c_Plan_addTake : kCon yX4_addTake cX4_addTake 3 (some .int) { frames := 1, cells := 0, slots := 0, locals := 22 } F_Plan_addTake := kCon_of kEnds_I (by decide +kernel) (by decide) ⟨0, 0, 0, b_Plan_addTake⟩
def l_Plan_forget_1 : kSx := sFor 3 (cC 2 (eI 2) (eI 1))
  (sIf (cNot (cZ 1 (eAld 1 (eGet 4 4 (eR 0)) (eI 2)))) (sCall 4 F_Plan_setTaker (eSnoc (eSnoc (eSnoc eNil (eR 0)) (eAld 0 (eGet 4 3 (eR 0)) (eI 2))) (eK (-1)))) sSkip)
  (sInc 2 (1))
def s_Plan_forget : kSx :=
  (sSeq (sLet 0 1 (eGet 4 0 (eR 0)))
  (sSeq (sTrunc 2 (sSeq (sLet 0 2 (eK (0))) l_Plan_forget_1))
  (sSeq (sPut 4 0 (eR 0) (eK (0)))
  (sRet 0 (eI 1)))))
abbrev M_Plan_forget : kM := (cX4_forget, yX4_forget.cls, 3, { frames := 1, cells := 0, slots := 0, locals := 22 }, (some .int))
set_option maxRecDepth 20000 in
theorem b_Plan_forget : kSt M_Plan_forget 0 0 0 0 s_Plan_forget :=
  (kSt_seq (kSt_let (kE_get (kE_aload_n dX4_forget_0) lf_RX4_45 dX4_forget_1) (kSet_istore_n dX4_forget_4 (by decide)))
  (kSt_seq (kSt_trunc (kSt_seq (kSt_let (kE_iconst dX4_forget_5 ⟨by decide, by decide⟩) (kSet_istore_n dX4_forget_6 (by decide))) (kSt_for (pu := 32) (pt := 12) (kCd_C (kE_iload_n dX4_forget_7) (kE_iload_n dX4_forget_8) (kJf_2 (tgt := 38) dX4_forget_9 (by decide))) (kSt_if (kCd_not (kCd_Z (kE_zald (kE_get (kE_aload_n dX4_forget_12) lf_RX4_15 dX4_forget_13) (kE_iload_n dX4_forget_16) dX4_forget_17) (kZt_1 (tgt := 32) dX4_forget_18 (by decide)))) (kSt_call (kEs_snoc (kEs_snoc (kEs_snoc kEs_nil (kE_aload_n dX4_forget_21)) (kE_iald (kE_get (kE_aload_n dX4_forget_22) lf_RX4_9 dX4_forget_23) (kE_iload_n dX4_forget_26) dX4_forget_27)) (kE_iconst dX4_forget_28 ⟨by decide, by decide⟩)) dX4_forget_29 c_Plan_setTaker mv_Plan_setTaker lm_RX4_49 ⟨rfl, rfl, by decide, by decide⟩) kSt_skip) (kSt_goto (tgt := 7) (kSt_inc dX4_forget_32 (by decide)) dX4_forget_35 (by decide)))))
  (kSt_seq (kSt_put (kE_aload_n dX4_forget_38) (kE_iconst dX4_forget_39 ⟨by decide, by decide⟩) lp_RX4_45 dX4_forget_40)
  (kSt_ret (tag := 0) (kE_iload_n dX4_forget_43) ⟨fun _ => dX4_forget_44, fun q => (by cases q), fun q => (by cases q)⟩))))
def F_Plan_forget : kFn := kF 1 kI s_Plan_forget
theorem c_Plan_forget : kCon yX4_forget cX4_forget 3 (some .int) { frames := 1, cells := 0, slots := 0, locals := 22 } F_Plan_forget := kCon_of kEnds_I (by decide +kernel) (by decide) ⟨0, 0, 0, b_Plan_forget⟩
def l_Plan_arcsBehind_1 : kSx := sFor 4 (cC 2 (eI 3) (eI 1))
  (sLet 0 2 (eBin kAdd (eI 2) (eIf (cZ 1 (eAld 1 (eGet 4 4 (eR 0)) (eI 3))) (eK (1)) (eK (-1)))))
  (sInc 3 (1))
def s_Plan_arcsBehind : kSx :=
  (sSeq (sLet 0 2 (eGet 10 4 (eGet 4 1 (eR 0))))
  (sSeq (sTrunc 3 (sSeq (sLet 0 3 (eK (0))) l_Plan_arcsBehind_1))
  (sRet 0 (eI 2))))
abbrev M_Plan_arcsBehind : kM := (cX4_arcsBehind, yX4_arcsBehind.cls, 4, { frames := 0, cells := 0, slots := 0, locals := 0 }, (some .int))
set_option maxRecDepth 20000 in
theorem b_Plan_arcsBehind : kSt M_Plan_arcsBehind 0 0 0 0 s_Plan_arcsBehind :=
  (kSt_seq (kSt_let (kE_get (kE_get (kE_aload_n dX4_arcsBehind_0) lf_RX4_31 dX4_arcsBehind_1) lf_RX4_53 dX4_arcsBehind_4) (kSet_istore_n dX4_arcsBehind_7 (by decide)))
  (kSt_seq (kSt_trunc (kSt_seq (kSt_let (kE_iconst dX4_arcsBehind_8 ⟨by decide, by decide⟩) (kSet_istore_n dX4_arcsBehind_9 (by decide))) (kSt_for (pu := 32) (pt := 15) (kCd_C (kE_iload_n dX4_arcsBehind_10) (kE_iload_n dX4_arcsBehind_11) (kJf_2 (tgt := 38) dX4_arcsBehind_12 (by decide))) (kSt_let (kE_bin (kE_iload_n dX4_arcsBehind_15) (kE_if (kCd_Z (kE_zald (kE_get (kE_aload_n dX4_arcsBehind_16) lf_RX4_15 dX4_arcsBehind_17) (kE_iload_n dX4_arcsBehind_20) dX4_arcsBehind_21) (kZf_1 (tgt := 29) dX4_arcsBehind_22 (by decide))) (kE_goto (tgt := 30) (kE_iconst dX4_arcsBehind_25 ⟨by decide, by decide⟩) dX4_arcsBehind_26 (by decide)) (kE_iconst dX4_arcsBehind_29 ⟨by decide, by decide⟩)) (kOp_add dX4_arcsBehind_30)) (kSet_istore_n dX4_arcsBehind_31 (by decide))) (kSt_goto (tgt := 10) (kSt_inc dX4_arcsBehind_32 (by decide)) dX4_arcsBehind_35 (by decide)))))
  (kSt_ret (tag := 0) (kE_iload_n dX4_arcsBehind_38) ⟨fun _ => dX4_arcsBehind_39, fun q => (by cases q), fun q => (by cases q)⟩)))
def F_Plan_arcsBehind : kFn := kF 2 kI s_Plan_arcsBehind
theorem c_Plan_arcsBehind : kCon yX4_arcsBehind cX4_arcsBehind 4 (some .int) { frames := 0, cells := 0, slots := 0, locals := 0 } F_Plan_arcsBehind := kCon_of kEnds_I (by decide +kernel) (by decide) ⟨0, 0, 0, b_Plan_arcsBehind⟩
def s_Plan_isLeft : kSx :=
  (sRet 0 (eIf (cOr (cC 0 (eI 1) (eK (-1))) (cC 3 (eI 1) (eI 2))) (eK (1)) (eK (0))))
abbrev M_Plan_isLeft : kM := (cX4_isLeft, yX4_isLeft.cls, 3, { frames := 0, cells := 0, slots := 0, locals := 0 }, (some .boolean))
set_option maxRecDepth 20000 in
theorem b_Plan_isLeft : kSt M_Plan_isLeft 0 0 0 0 s_Plan_isLeft :=
  (kSt_ret (tag := 0) (kE_if (kCd_or (kCd_C (kE_iload_n dX4_isLeft_0) (kE_iconst dX4_isLeft_1 ⟨by decide, by decide⟩) (kJt_0 (tgt := 10) dX4_isLeft_2 (by decide))) (kCd_C (kE_iload_n dX4_isLeft_5) (kE_iload_n dX4_isLeft_6) (kJf_3 (tgt := 14) dX4_isLeft_7 (by decide)))) (kE_goto (tgt := 15) (kE_iconst dX4_isLeft_10 ⟨by decide, by decide⟩) dX4_isLeft_11 (by decide)) (kE_iconst dX4_isLeft_14 ⟨by decide, by decide⟩)) ⟨fun _ => dX4_isLeft_15, fun q => (by cases q), fun q => (by cases q)⟩)
def F_Plan_isLeft : kFn := kF 3 kZ s_Plan_isLeft
theorem c_Plan_isLeft : kCon yX4_isLeft cX4_isLeft 3 (some .boolean) { frames := 0, cells := 0, slots := 0, locals := 0 } F_Plan_isLeft := kCon_of kEnds_Z (by decide +kernel) (by decide) ⟨0, 0, 0, b_Plan_isLeft⟩
def l_Plan_behind_1 : kSx := sFor 3 (cC 2 (eI 2) (eGet 10 4 (eGet 4 1 (eR 0))))
  (sTrunc 3 (sSeq (sLet 0 3 (eAld 0 (eGet 10 2 (eGet 4 1 (eR 0))) (eI 2)))
  (sIf (cZ 1 (eCall 4 F_Plan_isLeft (eSnoc (eSnoc (eSnoc eNil (eR 0)) (eAld 0 (eGet 4 7 (eR 0)) (eI 3))) (eI 1)))) (sE (eCall 2 F_Joiner_join (eSnoc (eSnoc (eSnoc eNil (eGet 4 2 (eR 0))) (eAld 0 (eGet 10 0 (eGet 4 1 (eR 0))) (eI 3))) (eAld 0 (eGet 10 1 (eGet 4 1 (eR 0))) (eI 3))))) sSkip)))
  (sInc 2 (1))
def l_Plan_behind_2 : kSx := sFor 3 (cC 2 (eI 2) (eI 1))
  (sIf (cAnd (cZ 1 (eAld 1 (eGet 4 4 (eR 0)) (eI 2))) (cZ 1 (eCall 4 F_Plan_isLeft (eSnoc (eSnoc (eSnoc eNil (eR 0)) (eAld 0 (eGet 4 8 (eR 0)) (eI 2))) (eI 1))))) (sE (eCall 2 F_Joiner_join (eSnoc (eSnoc (eSnoc eNil (eGet 4 2 (eR 0))) (eAld 0 (eGet 4 5 (eR 0)) (eI 2))) (eAld 0 (eGet 4 6 (eR 0)) (eI 2))))) sSkip)
  (sInc 2 (1))
def s_Plan_behind : kSx :=
  (sSeq (sCall 2 F_Joiner_begin (eSnoc (eSnoc eNil (eGet 4 2 (eR 0))) (eGet 10 3 (eGet 4 1 (eR 0)))))
  (sSeq (sTrunc 2 (sSeq (sLet 0 2 (eK (0))) l_Plan_behind_1))
  (sSeq (sTrunc 2 (sSeq (sLet 0 2 (eK (0))) l_Plan_behind_2))
  (sRet 1 (eGet 4 2 (eR 0))))))
abbrev M_Plan_behind : kM := (cX4_behind, yX4_behind.cls, 4, { frames := 3, cells := 0, slots := 0, locals := 70 }, (some (.object "KeptParts$Joiner")))
set_option maxRecDepth 20000 in
theorem b_Plan_behind : kSt M_Plan_behind 0 0 0 0 s_Plan_behind :=
  (kSt_seq (kSt_call (kEs_snoc (kEs_snoc kEs_nil (kE_get (kE_aload_n dX4_behind_0) lf_RX4_35 dX4_behind_1)) (kE_get (kE_get (kE_aload_n dX4_behind_4) lf_RX4_31 dX4_behind_5) lf_RX4_58 dX4_behind_8)) dX4_behind_11 c_Joiner_begin mv_Joiner_begin lm_RX4_61 ⟨rfl, rfl, by decide, by decide⟩)
  (kSt_seq (kSt_trunc (kSt_seq (kSt_let (kE_iconst dX4_behind_14 ⟨by decide, by decide⟩) (kSet_istore_n dX4_behind_15 (by decide))) (kSt_for (pu := 77) (pt := 27) (kCd_C (kE_iload_n dX4_behind_16) (kE_get (kE_get (kE_aload_n dX4_behind_17) lf_RX4_31 dX4_behind_18) lf_RX4_53 dX4_behind_21) (kJf_2 (tgt := 83) dX4_behind_24 (by decide))) (kSt_trunc (kSt_seq (kSt_let (kE_iald (kE_get (kE_get (kE_aload_n dX4_behind_27) lf_RX4_31 dX4_behind_28) lf_RX4_67 dX4_behind_31) (kE_iload_n dX4_behind_34) dX4_behind_35) (kSet_istore_n dX4_behind_36 (by decide)))
  (kSt_if (kCd_Z (kE_call (kEs_snoc (kEs_snoc (kEs_snoc kEs_nil (kE_aload_n dX4_behind_37)) (kE_iald (kE_get (kE_aload_n dX4_behind_38) lf_RX4_25 dX4_behind_39) (kE_iload_n dX4_behind_42) dX4_behind_43)) (kE_iload_n dX4_behind_44)) dX4_behind_45 c_Plan_isLeft mv_Plan_isLeft lm_RX4_70 ⟨rfl, rfl, by decide, by decide⟩ (by decide)) (kZf_1 (tgt := 77) dX4_behind_48 (by decide))) (kSt_E (kE_call (kEs_snoc (kEs_snoc (kEs_snoc kEs_nil (kE_get (kE_aload_n dX4_behind_51) lf_RX4_35 dX4_behind_52)) (kE_iald (kE_get (kE_get (kE_aload_n dX4_behind_55) lf_RX4_31 dX4_behind_56) lf_RX4_74 dX4_behind_59) (kE_iload_n dX4_behind_62) dX4_behind_63)) (kE_iald (kE_get (kE_get (kE_aload_n dX4_behind_64) lf_RX4_31 dX4_behind_65) lf_RX4_75 dX4_behind_68) (kE_iload_n dX4_behind_71) dX4_behind_72)) dX4_behind_73 c_Joiner_join mv_Joiner_join lm_RX4_76 ⟨rfl, rfl, by decide, by decide⟩ (by decide)) dX4_behind_76) kSt_skip))) (kSt_goto (tgt := 16) (kSt_inc dX4_behind_77 (by decide)) dX4_behind_80 (by decide)))))
  (kSt_seq (kSt_trunc (kSt_seq (kSt_let (kE_iconst dX4_behind_83 ⟨by decide, by decide⟩) (kSet_istore_n dX4_behind_84 (by decide))) (kSt_for (pu := 133) (pt := 90) (kCd_C (kE_iload_n dX4_behind_85) (kE_iload_n dX4_behind_86) (kJf_2 (tgt := 139) dX4_behind_87 (by decide))) (kSt_if (kCd_and (kCd_Z (kE_zald (kE_get (kE_aload_n dX4_behind_90) lf_RX4_15 dX4_behind_91) (kE_iload_n dX4_behind_94) dX4_behind_95) (kZf_1 (tgt := 133) dX4_behind_96 (by decide))) (kCd_Z (kE_call (kEs_snoc (kEs_snoc (kEs_snoc kEs_nil (kE_aload_n dX4_behind_99)) (kE_iald (kE_get (kE_aload_n dX4_behind_100) lf_RX4_28 dX4_behind_101) (kE_iload_n dX4_behind_104) dX4_behind_105)) (kE_iload_n dX4_behind_106)) dX4_behind_107 c_Plan_isLeft mv_Plan_isLeft lm_RX4_70 ⟨rfl, rfl, by decide, by decide⟩ (by decide)) (kZf_1 (tgt := 133) dX4_behind_110 (by decide)))) (kSt_E (kE_call (kEs_snoc (kEs_snoc (kEs_snoc kEs_nil (kE_get (kE_aload_n dX4_behind_113) lf_RX4_35 dX4_behind_114)) (kE_iald (kE_get (kE_aload_n dX4_behind_117) lf_RX4_19 dX4_behind_118) (kE_iload_n dX4_behind_121) dX4_behind_122)) (kE_iald (kE_get (kE_aload_n dX4_behind_123) lf_RX4_22 dX4_behind_124) (kE_iload_n dX4_behind_127) dX4_behind_128)) dX4_behind_129 c_Joiner_join mv_Joiner_join lm_RX4_76 ⟨rfl, rfl, by decide, by decide⟩ (by decide)) dX4_behind_132) kSt_skip) (kSt_goto (tgt := 85) (kSt_inc dX4_behind_133 (by decide)) dX4_behind_136 (by decide)))))
  (kSt_ret (tag := 1) (kE_get (kE_aload_n dX4_behind_139) lf_RX4_35 dX4_behind_140) ⟨fun q => (by cases q), fun _ => dX4_behind_143, fun q => (by cases q)⟩))))
def F_Plan_behind : kFn := kF 2 kA s_Plan_behind
theorem c_Plan_behind : kCon yX4_behind cX4_behind 4 (some (.object "KeptParts$Joiner")) { frames := 3, cells := 0, slots := 0, locals := 70 } F_Plan_behind := kCon_of kEnds_A (by decide +kernel) (by decide) ⟨0, 0, 0, b_Plan_behind⟩
def s_KP_addNode : kSx :=
  (sSeq (sLet 0 2 (eCall 10 F_Web_addNode (eSnoc eNil (eGet 11 1 (eR 0)))))
  (sSeq (sCall 8 F_Trees_nodeAdded (eSnoc (eSnoc eNil (eGet 11 2 (eR 0))) (eI 2)))
  (sSeq (sCall 5 F_Row_nodeAdded (eSnoc (eSnoc eNil (eGet 11 5 (eR 0))) (eI 2)))
  (sSeq (sCall 0 F_Chosen_nodeAdded (eSnoc (eSnoc (eSnoc eNil (eGet 11 8 (eR 0))) (eI 2)) (eI 1)))
  (sRet 0 (eI 2))))))
abbrev M_KP_addNode : kM := (cX11_addNode, yX11_addNode.cls, 3, { frames := 3, cells := 0, slots := 0, locals := 78 }, (some .int))
set_option maxRecDepth 20000 in
theorem b_KP_addNode : kSt M_KP_addNode 0 0 0 0 s_KP_addNode :=
  (kSt_seq (kSt_let (kE_call (kEs_snoc kEs_nil (kE_get (kE_aload_n dX11_addNode_0) lf_RX11_16 dX11_addNode_1)) dX11_addNode_4 c_Web_addNode mv_Web_addNode lm_RX11_328 ⟨rfl, rfl, by decide, by decide⟩ (by decide)) (kSet_istore_n dX11_addNode_7 (by decide)))
  (kSt_seq (kSt_call (kEs_snoc (kEs_snoc kEs_nil (kE_get (kE_aload_n dX11_addNode_8) lf_RX11_25 dX11_addNode_9)) (kE_iload_n dX11_addNode_12)) dX11_addNode_13 c_Trees_nodeAdded mv_Trees_nodeAdded lm_RX11_330 ⟨rfl, rfl, by decide, by decide⟩)
  (kSt_seq (kSt_call (kEs_snoc (kEs_snoc kEs_nil (kE_get (kE_aload_n dX11_addNode_16) lf_RX11_48 dX11_addNode_17)) (kE_iload_n dX11_addNode_20)) dX11_addNode_21 c_Row_nodeAdded mv_Row_nodeAdded lm_RX11_333 ⟨rfl, rfl, by decide, by decide⟩)
  (kSt_seq (kSt_call (kEs_snoc (kEs_snoc (kEs_snoc kEs_nil (kE_get (kE_aload_n dX11_addNode_24) lf_RX11_69 dX11_addNode_25)) (kE_iload_n dX11_addNode_28)) (kE_iload_n dX11_addNode_29)) dX11_addNode_30 c_Chosen_nodeAdded mv_Chosen_nodeAdded lm_RX11_334 ⟨rfl, rfl, by decide, by decide⟩)
  (kSt_ret (tag := 0) (kE_iload_n dX11_addNode_33) ⟨fun _ => dX11_addNode_34, fun q => (by cases q), fun q => (by cases q)⟩)))))
def F_KP_addNode : kFn := kF 2 kI s_KP_addNode
theorem c_KP_addNode : kCon yX11_addNode cX11_addNode 3 (some .int) { frames := 3, cells := 0, slots := 0, locals := 78 } F_KP_addNode := kCon_of kEnds_I (by decide +kernel) (by decide) ⟨0, 0, 0, b_KP_addNode⟩
def s_KP_node : kSx :=
  (sSeq (sIf (cC 3 (eGet 10 3 (eGet 11 1 (eR 0))) (eK (300))) (sThrow 13) sSkip)
  (sSeq (sE (eCall 4 F_Plan_forget (eSnoc eNil (eGet 11 9 (eR 0)))))
  (sRet 0 (eCall 11 F_KP_addNode (eSnoc (eSnoc eNil (eR 0)) (eI 1))))))
abbrev M_KP_node : kM := (cX11_node, yX11_node.cls, 2, { frames := 4, cells := 0, slots := 0, locals := 100 }, (some .int))
set_option maxRecDepth 20000 in
theorem b_KP_node : kSt M_KP_node 0 0 0 0 s_KP_node :=
  (kSt_seq (kSt_if (kCd_C (kE_get (kE_get (kE_aload_n dX11_node_0) lf_RX11_16 dX11_node_1) lf_RX11_96 dX11_node_4) (kE_sipush dX11_node_7 (by rfl) ⟨by decide, by decide⟩) (kJf_3 (tgt := 23) dX11_node_10 (by decide))) kSt_throw kSt_skip)
  (kSt_seq (kSt_E (kE_call (kEs_snoc kEs_nil (kE_get (kE_aload_n dX11_node_23) lf_RX11_85 dX11_node_24)) dX11_node_27 c_Plan_forget mv_Plan_forget lm_RX11_106 ⟨rfl, rfl, by decide, by decide⟩ (by decide)) dX11_node_30)
  (kSt_ret (tag := 0) (kE_call (kEs_snoc (kEs_snoc kEs_nil (kE_aload_n dX11_node_31)) (kE_iload_n dX11_node_32)) dX11_node_33 c_KP_addNode mv_KP_addNode lm_RX11_110 ⟨rfl, rfl, by decide, by decide⟩ (by decide)) ⟨fun _ => dX11_node_36, fun q => (by cases q), fun q => (by cases q)⟩)))
def s_KP_addArc : kSx :=
  (sSeq (sLet 0 4 (eCall 10 F_Web_addArc (eSnoc (eSnoc (eSnoc eNil (eGet 11 1 (eR 0))) (eI 1)) (eI 2))))
  (sSeq (sCall 8 F_Trees_arcAdded (eSnoc (eSnoc eNil (eGet 11 2 (eR 0))) (eI 4)))
  (sSeq (sCall 5 F_Row_arcAdded (eSnoc (eSnoc (eSnoc eNil (eGet 11 5 (eR 0))) (eI 4)) (eI 3)))
  (sSeq (sPut 11 12 (eR 0) (eCall 0 F_Chosen_arcChanged (eSnoc (eSnoc (eSnoc eNil (eGet 11 8 (eR 0))) (eI 1)) (eI 2))))
  (sRet 0 (eI 4))))))
abbrev M_KP_addArc : kM := (cX11_addArc, yX11_addArc.cls, 5, { frames := 4, cells := 0, slots := 0, locals := 103 }, (some .int))
set_option maxRecDepth 20000 in
theorem b_KP_addArc : kSt M_KP_addArc 0 0 0 0 s_KP_addArc :=
  (kSt_seq (kSt_let (kE_call (kEs_snoc (kEs_snoc (kEs_snoc kEs_nil (kE_get (kE_aload_n dX11_addArc_0) lf_RX11_16 dX11_addArc_1)) (kE_iload_n dX11_addArc_4)) (kE_iload_n dX11_addArc_5)) dX11_addArc_6 c_Web_addArc mv_Web_addArc lm_RX11_337 ⟨rfl, rfl, by decide, by decide⟩ (by decide)) (kSet_istore dX11_addArc_9 (by decide)))
  (kSt_seq (kSt_call (kEs_snoc (kEs_snoc kEs_nil (kE_get (kE_aload_n dX11_addArc_11) lf_RX11_25 dX11_addArc_12)) (kE_iload dX11_addArc_15)) dX11_addArc_17 c_Trees_arcAdded mv_Trees_arcAdded lm_RX11_339 ⟨rfl, rfl, by decide, by decide⟩)
  (kSt_seq (kSt_call (kEs_snoc (kEs_snoc (kEs_snoc kEs_nil (kE_get (kE_aload_n dX11_addArc_20) lf_RX11_48 dX11_addArc_21)) (kE_iload dX11_addArc_24)) (kE_iload_n dX11_addArc_26)) dX11_addArc_27 c_Row_arcAdded mv_Row_arcAdded lm_RX11_342 ⟨rfl, rfl, by decide, by decide⟩)
  (kSt_seq (kSt_put (kE_aload_n dX11_addArc_30) (kE_call (kEs_snoc (kEs_snoc (kEs_snoc kEs_nil (kE_get (kE_aload_n dX11_addArc_31) lf_RX11_69 dX11_addArc_32)) (kE_iload_n dX11_addArc_35)) (kE_iload_n dX11_addArc_36)) dX11_addArc_37 c_Chosen_arcChanged mv_Chosen_arcChanged lm_RX11_163 ⟨rfl, rfl, by decide, by decide⟩ (by decide)) lp_RX11_92 dX11_addArc_40)
  (kSt_ret (tag := 0) (kE_iload dX11_addArc_43) ⟨fun _ => dX11_addArc_45, fun q => (by cases q), fun q => (by cases q)⟩)))))
def F_KP_addArc : kFn := kF 4 kI s_KP_addArc
theorem c_KP_addArc : kCon yX11_addArc cX11_addArc 5 (some .int) { frames := 4, cells := 0, slots := 0, locals := 103 } F_KP_addArc := kCon_of kEnds_I (by decide +kernel) (by decide) ⟨0, 0, 0, b_KP_addArc⟩
def l_KP_chain_1 : kSx := sFor 4 (cC 2 (eI 3) (eI 1))
  (sE (eCall 11 F_KP_addNode (eSnoc (eSnoc eNil (eR 0)) (eK (0)))))
  (sInc 3 (1))
def l_KP_chain_2 : kSx := sFor 4 (cC 2 (eI 3) (eI 1))
  (sE (eCall 11 F_KP_addArc (eSnoc (eSnoc (eSnoc (eSnoc eNil (eR 0)) (eBin kSub (eBin kAdd (eI 2) (eI 3)) (eK (1)))) (eBin kAdd (eI 2) (eI 3))) (eK (0)))))
  (sInc 3 (1))
def s_KP_chain : kSx :=
  (sSeq (sIf (cOr (cC 2 (eI 1) (eK (1))) (cC 4 (eI 1) (eK (300)))) (sThrow 12) sSkip)
  (sSeq (sIf (cOr (cC 4 (eI 1) (eBin kSub (eK (300)) (eGet 10 3 (eGet 11 1 (eR 0))))) (cNot (cZ 1 (eCall 10 F_Web_hasRoom (eSnoc (eSnoc eNil (eGet 11 1 (eR 0))) (eBin kSub (eI 1) (eK (1)))))))) (sThrow 50) sSkip)
  (sSeq (sE (eCall 4 F_Plan_forget (eSnoc eNil (eGet 11 9 (eR 0)))))
  (sSeq (sLet 0 2 (eGet 10 3 (eGet 11 1 (eR 0))))
  (sSeq (sTrunc 3 (sSeq (sLet 0 3 (eK (0))) l_KP_chain_1))
  (sSeq (sTrunc 3 (sSeq (sLet 0 3 (eK (1))) l_KP_chain_2))
  (sRet 0 (eI 2))))))))
abbrev M_KP_chain : kM := (cX11_chain, yX11_chain.cls, 4, { frames := 5, cells := 0, slots := 0, locals := 127 }, (some .int))
set_option maxRecDepth 20000 in
theorem b_KP_chain : kSt M_KP_chain 0 0 0 0 s_KP_chain :=
  (kSt_seq (kSt_if (kCd_or (kCd_C (kE_iload_n dX11_chain_0) (kE_iconst dX11_chain_1 ⟨by decide, by decide⟩) (kJt_2 (tgt := 12) dX11_chain_2 (by decide))) (kCd_C (kE_iload_n dX11_chain_5) (kE_sipush dX11_chain_6 (by rfl) ⟨by decide, by decide⟩) (kJf_4 (tgt := 22) dX11_chain_9 (by decide)))) kSt_throw kSt_skip)
  (kSt_seq (kSt_if (kCd_or (kCd_C (kE_iload_n dX11_chain_22) (kE_bin (kE_sipush dX11_chain_23 (by rfl) ⟨by decide, by decide⟩) (kE_get (kE_get (kE_aload_n dX11_chain_26) lf_RX11_16 dX11_chain_27) lf_RX11_96 dX11_chain_30) (kOp_sub dX11_chain_33)) (kJt_4 (tgt := 50) dX11_chain_34 (by decide))) (kCd_not (kCd_Z (kE_call (kEs_snoc (kEs_snoc kEs_nil (kE_get (kE_aload_n dX11_chain_37) lf_RX11_16 dX11_chain_38)) (kE_bin (kE_iload_n dX11_chain_41) (kE_iconst dX11_chain_42 ⟨by decide, by decide⟩) (kOp_sub dX11_chain_43))) dX11_chain_44 c_Web_hasRoom mv_Web_hasRoom lm_RX11_119 ⟨rfl, rfl, by decide, by decide⟩ (by decide)) (kZt_1 (tgt := 60) dX11_chain_47 (by decide))))) kSt_throw kSt_skip)
  (kSt_seq (kSt_E (kE_call (kEs_snoc kEs_nil (kE_get (kE_aload_n dX11_chain_60) lf_RX11_85 dX11_chain_61)) dX11_chain_64 c_Plan_forget mv_Plan_forget lm_RX11_106 ⟨rfl, rfl, by decide, by decide⟩ (by decide)) dX11_chain_67)
  (kSt_seq (kSt_let (kE_get (kE_get (kE_aload_n dX11_chain_68) lf_RX11_16 dX11_chain_69) lf_RX11_96 dX11_chain_72) (kSet_istore_n dX11_chain_75 (by decide)))
  (kSt_seq (kSt_trunc (kSt_seq (kSt_let (kE_iconst dX11_chain_76 ⟨by decide, by decide⟩) (kSet_istore_n dX11_chain_77 (by decide))) (kSt_for (pu := 89) (pt := 83) (kCd_C (kE_iload_n dX11_chain_78) (kE_iload_n dX11_chain_79) (kJf_2 (tgt := 95) dX11_chain_80 (by decide))) (kSt_E (kE_call (kEs_snoc (kEs_snoc kEs_nil (kE_aload_n dX11_chain_83)) (kE_iconst dX11_chain_84 ⟨by decide, by decide⟩)) dX11_chain_85 c_KP_addNode mv_KP_addNode lm_RX11_110 ⟨rfl, rfl, by decide, by decide⟩ (by decide)) dX11_chain_88) (kSt_goto (tgt := 78) (kSt_inc dX11_chain_89 (by decide)) dX11_chain_92 (by decide)))))
  (kSt_seq (kSt_trunc (kSt_seq (kSt_let (kE_iconst dX11_chain_95 ⟨by decide, by decide⟩) (kSet_istore_n dX11_chain_96 (by decide))) (kSt_for (pu := 116) (pt := 102) (kCd_C (kE_iload_n dX11_chain_97) (kE_iload_n dX11_chain_98) (kJf_2 (tgt := 122) dX11_chain_99 (by decide))) (kSt_E (kE_call (kEs_snoc (kEs_snoc (kEs_snoc (kEs_snoc kEs_nil (kE_aload_n dX11_chain_102)) (kE_bin (kE_bin (kE_iload_n dX11_chain_103) (kE_iload_n dX11_chain_104) (kOp_add dX11_chain_105)) (kE_iconst dX11_chain_106 ⟨by decide, by decide⟩) (kOp_sub dX11_chain_107))) (kE_bin (kE_iload_n dX11_chain_108) (kE_iload_n dX11_chain_109) (kOp_add dX11_chain_110))) (kE_iconst dX11_chain_111 ⟨by decide, by decide⟩)) dX11_chain_112 c_KP_addArc mv_KP_addArc lm_RX11_125 ⟨rfl, rfl, by decide, by decide⟩ (by decide)) dX11_chain_115) (kSt_goto (tgt := 97) (kSt_inc dX11_chain_116 (by decide)) dX11_chain_119 (by decide)))))
  (kSt_ret (tag := 0) (kE_iload_n dX11_chain_122) ⟨fun _ => dX11_chain_123, fun q => (by cases q), fun q => (by cases q)⟩)))))))
def s_KP_put : kSx :=
  (sSeq (sIf (cOr (cNot (cZ 1 (eCall 10 F_Web_hasNode (eSnoc (eSnoc eNil (eGet 11 1 (eR 0))) (eI 1))))) (cNot (cZ 1 (eCall 10 F_Web_hasNode (eSnoc (eSnoc eNil (eGet 11 1 (eR 0))) (eI 2)))))) (sThrow 22) sSkip)
  (sSeq (sIf (cNot (cZ 1 (eCall 10 F_Web_hasRoom (eSnoc (eSnoc eNil (eGet 11 1 (eR 0))) (eK (1)))))) (sThrow 43) sSkip)
  (sSeq (sLet 0 3 (eCall 5 F_Row_tellRing (eSnoc (eSnoc (eSnoc eNil (eGet 11 5 (eR 0))) (eI 1)) (eI 2))))
  (sSeq (sIf (cAnd (cZ 1 (eI 3)) (cZ 1 (eGet 11 0 (eR 0)))) (sRet 0 (eK (-1))) sSkip)
  (sSeq (sE (eCall 4 F_Plan_forget (eSnoc eNil (eGet 11 9 (eR 0)))))
  (sRet 0 (eCall 11 F_KP_addArc (eSnoc (eSnoc (eSnoc (eSnoc eNil (eR 0)) (eI 1)) (eI 2)) (eI 3)))))))))
abbrev M_KP_put : kM := (cX11_put, yX11_put.cls, 4, { frames := 5, cells := 0, slots := 0, locals := 127 }, (some .int))
set_option maxRecDepth 20000 in
theorem b_KP_put : kSt M_KP_put 0 0 0 0 s_KP_put :=
  (kSt_seq (kSt_if (kCd_or (kCd_not (kCd_Z (kE_call (kEs_snoc (kEs_snoc kEs_nil (kE_get (kE_aload_n dX11_put_0) lf_RX11_16 dX11_put_1)) (kE_iload_n dX11_put_4)) dX11_put_5 c_Web_hasNode mv_Web_hasNode lm_RX11_129 ⟨rfl, rfl, by decide, by decide⟩ (by decide)) (kZf_1 (tgt := 22) dX11_put_8 (by decide)))) (kCd_not (kCd_Z (kE_call (kEs_snoc (kEs_snoc kEs_nil (kE_get (kE_aload_n dX11_put_11) lf_RX11_16 dX11_put_12)) (kE_iload_n dX11_put_15)) dX11_put_16 c_Web_hasNode mv_Web_hasNode lm_RX11_129 ⟨rfl, rfl, by decide, by decide⟩ (by decide)) (kZt_1 (tgt := 32) dX11_put_19 (by decide))))) kSt_throw kSt_skip)
  (kSt_seq (kSt_if (kCd_not (kCd_Z (kE_call (kEs_snoc (kEs_snoc kEs_nil (kE_get (kE_aload_n dX11_put_32) lf_RX11_16 dX11_put_33)) (kE_iconst dX11_put_36 ⟨by decide, by decide⟩)) dX11_put_37 c_Web_hasRoom mv_Web_hasRoom lm_RX11_119 ⟨rfl, rfl, by decide, by decide⟩ (by decide)) (kZt_1 (tgt := 53) dX11_put_40 (by decide)))) kSt_throw kSt_skip)
  (kSt_seq (kSt_let (kE_call (kEs_snoc (kEs_snoc (kEs_snoc kEs_nil (kE_get (kE_aload_n dX11_put_53) lf_RX11_48 dX11_put_54)) (kE_iload_n dX11_put_57)) (kE_iload_n dX11_put_58)) dX11_put_59 c_Row_tellRing mv_Row_tellRing lm_RX11_139 ⟨rfl, rfl, by decide, by decide⟩ (by decide)) (kSet_istore_n dX11_put_62 (by decide)))
  (kSt_seq (kSt_if (kCd_and (kCd_Z (kE_iload_n dX11_put_63) (kZf_1 (tgt := 76) dX11_put_64 (by decide))) (kCd_Z (kE_get (kE_aload_n dX11_put_67) lf_RX11_7 dX11_put_68) (kZf_1 (tgt := 76) dX11_put_71 (by decide)))) (kSt_ret (tag := 0) (kE_iconst dX11_put_74 ⟨by decide, by decide⟩) ⟨fun _ => dX11_put_75, fun q => (by cases q), fun q => (by cases q)⟩) kSt_skip)
  (kSt_seq (kSt_E (kE_call (kEs_snoc kEs_nil (kE_get (kE_aload_n dX11_put_76) lf_RX11_85 dX11_put_77)) dX11_put_80 c_Plan_forget mv_Plan_forget lm_RX11_106 ⟨rfl, rfl, by decide, by decide⟩ (by decide)) dX11_put_83)
  (kSt_ret (tag := 0) (kE_call (kEs_snoc (kEs_snoc (kEs_snoc (kEs_snoc kEs_nil (kE_aload_n dX11_put_84)) (kE_iload_n dX11_put_85)) (kE_iload_n dX11_put_86)) (kE_iload_n dX11_put_87)) dX11_put_88 c_KP_addArc mv_KP_addArc lm_RX11_125 ⟨rfl, rfl, by decide, by decide⟩ (by decide)) ⟨fun _ => dX11_put_91, fun q => (by cases q), fun q => (by cases q)⟩))))))
def s_KP_take : kSx :=
  (sSeq (sIf (cNot (cZ 1 (eCall 10 F_Web_hasArc (eSnoc (eSnoc eNil (eGet 11 1 (eR 0))) (eI 1))))) (sThrow 11) sSkip)
  (sSeq (sE (eCall 4 F_Plan_forget (eSnoc eNil (eGet 11 9 (eR 0)))))
  (sSeq (sCall 10 F_Web_removeArc (eSnoc (eSnoc eNil (eGet 11 1 (eR 0))) (eI 1)))
  (sSeq (sCall 8 F_Trees_arcRemoved (eSnoc (eSnoc eNil (eGet 11 2 (eR 0))) (eI 1)))
  (sSeq (sCall 5 F_Row_arcRemoved (eSnoc (eSnoc eNil (eGet 11 5 (eR 0))) (eI 1)))
  (sSeq (sPut 11 12 (eR 0) (eCall 0 F_Chosen_arcChanged (eSnoc (eSnoc (eSnoc eNil (eGet 11 8 (eR 0))) (eAld 0 (eGet 10 0 (eGet 11 1 (eR 0))) (eI 1))) (eAld 0 (eGet 10 1 (eGet 11 1 (eR 0))) (eI 1)))))
  (sRet 0 (eCall 8 F_Trees_parts (eSnoc eNil (eGet 11 2 (eR 0)))))))))))
abbrev M_KP_take : kM := (cX11_take, yX11_take.cls, 2, { frames := 4, cells := 0, slots := 0, locals := 106 }, (some .int))
set_option maxRecDepth 20000 in
theorem b_KP_take : kSt M_KP_take 0 0 0 0 s_KP_take :=
  (kSt_seq (kSt_if (kCd_not (kCd_Z (kE_call (kEs_snoc (kEs_snoc kEs_nil (kE_get (kE_aload_n dX11_take_0) lf_RX11_16 dX11_take_1)) (kE_iload_n dX11_take_4)) dX11_take_5 c_Web_hasArc mv_Web_hasArc lm_RX11_143 ⟨rfl, rfl, by decide, by decide⟩ (by decide)) (kZt_1 (tgt := 21) dX11_take_8 (by decide)))) kSt_throw kSt_skip)
  (kSt_seq (kSt_E (kE_call (kEs_snoc kEs_nil (kE_get (kE_aload_n dX11_take_21) lf_RX11_85 dX11_take_22)) dX11_take_25 c_Plan_forget mv_Plan_forget lm_RX11_106 ⟨rfl, rfl, by decide, by decide⟩ (by decide)) dX11_take_28)
  (kSt_seq (kSt_call (kEs_snoc (kEs_snoc kEs_nil (kE_get (kE_aload_n dX11_take_29) lf_RX11_16 dX11_take_30)) (kE_iload_n dX11_take_33)) dX11_take_34 c_Web_removeArc mv_Web_removeArc lm_RX11_148 ⟨rfl, rfl, by decide, by decide⟩)
  (kSt_seq (kSt_call (kEs_snoc (kEs_snoc kEs_nil (kE_get (kE_aload_n dX11_take_37) lf_RX11_25 dX11_take_38)) (kE_iload_n dX11_take_41)) dX11_take_42 c_Trees_arcRemoved mv_Trees_arcRemoved lm_RX11_152 ⟨rfl, rfl, by decide, by decide⟩)
  (kSt_seq (kSt_call (kEs_snoc (kEs_snoc kEs_nil (kE_get (kE_aload_n dX11_take_45) lf_RX11_48 dX11_take_46)) (kE_iload_n dX11_take_49)) dX11_take_50 c_Row_arcRemoved mv_Row_arcRemoved lm_RX11_155 ⟨rfl, rfl, by decide, by decide⟩)
  (kSt_seq (kSt_put (kE_aload_n dX11_take_53) (kE_call (kEs_snoc (kEs_snoc (kEs_snoc kEs_nil (kE_get (kE_aload_n dX11_take_54) lf_RX11_69 dX11_take_55)) (kE_iald (kE_get (kE_get (kE_aload_n dX11_take_58) lf_RX11_16 dX11_take_59) lf_RX11_156 dX11_take_62) (kE_iload_n dX11_take_65) dX11_take_66)) (kE_iald (kE_get (kE_get (kE_aload_n dX11_take_67) lf_RX11_16 dX11_take_68) lf_RX11_160 dX11_take_71) (kE_iload_n dX11_take_74) dX11_take_75)) dX11_take_76 c_Chosen_arcChanged mv_Chosen_arcChanged lm_RX11_163 ⟨rfl, rfl, by decide, by decide⟩ (by decide)) lp_RX11_92 dX11_take_79)
  (kSt_ret (tag := 0) (kE_call (kEs_snoc kEs_nil (kE_get (kE_aload_n dX11_take_82) lf_RX11_25 dX11_take_83)) dX11_take_86 c_Trees_parts mv_Trees_parts lm_RX11_167 ⟨rfl, rfl, by decide, by decide⟩ (by decide)) ⟨fun _ => dX11_take_89, fun q => (by cases q), fun q => (by cases q)⟩)))))))
def s_KP_weigh : kSx :=
  (sSeq (sIf (cNot (cZ 1 (eCall 10 F_Web_hasNode (eSnoc (eSnoc eNil (eGet 11 1 (eR 0))) (eI 1))))) (sThrow 11) sSkip)
  (sRet 0 (eCall 0 F_Chosen_reweigh (eSnoc (eSnoc (eSnoc eNil (eGet 11 8 (eR 0))) (eI 1)) (eI 2)))))
abbrev M_KP_weigh : kM := (cX11_weigh, yX11_weigh.cls, 3, { frames := 4, cells := 0, slots := 0, locals := 94 }, (some .int))
set_option maxRecDepth 20000 in
theorem b_KP_weigh : kSt M_KP_weigh 0 0 0 0 s_KP_weigh :=
  (kSt_seq (kSt_if (kCd_not (kCd_Z (kE_call (kEs_snoc (kEs_snoc kEs_nil (kE_get (kE_aload_n dX11_weigh_0) lf_RX11_16 dX11_weigh_1)) (kE_iload_n dX11_weigh_4)) dX11_weigh_5 c_Web_hasNode mv_Web_hasNode lm_RX11_129 ⟨rfl, rfl, by decide, by decide⟩ (by decide)) (kZt_1 (tgt := 21) dX11_weigh_8 (by decide)))) kSt_throw kSt_skip)
  (kSt_ret (tag := 0) (kE_call (kEs_snoc (kEs_snoc (kEs_snoc kEs_nil (kE_get (kE_aload_n dX11_weigh_21) lf_RX11_69 dX11_weigh_22)) (kE_iload_n dX11_weigh_25)) (kE_iload_n dX11_weigh_26)) dX11_weigh_27 c_Chosen_reweigh mv_Chosen_reweigh lm_RX11_170 ⟨rfl, rfl, by decide, by decide⟩ (by decide)) ⟨fun _ => dX11_weigh_30, fun q => (by cases q), fun q => (by cases q)⟩))
def s_KP_joined : kSx :=
  (sSeq (sIf (cOr (cNot (cZ 1 (eCall 10 F_Web_hasNode (eSnoc (eSnoc eNil (eGet 11 1 (eR 0))) (eI 1))))) (cNot (cZ 1 (eCall 10 F_Web_hasNode (eSnoc (eSnoc eNil (eGet 11 1 (eR 0))) (eI 2)))))) (sThrow 22) sSkip)
  (sRet 0 (eCall 8 F_Trees_together (eSnoc (eSnoc (eSnoc eNil (eGet 11 2 (eR 0))) (eI 1)) (eI 2)))))
abbrev M_KP_joined : kM := (cX11_joined, yX11_joined.cls, 3, { frames := 1, cells := 0, slots := 0, locals := 22 }, (some .boolean))
set_option maxRecDepth 20000 in
theorem b_KP_joined : kSt M_KP_joined 0 0 0 0 s_KP_joined :=
  (kSt_seq (kSt_if (kCd_or (kCd_not (kCd_Z (kE_call (kEs_snoc (kEs_snoc kEs_nil (kE_get (kE_aload_n dX11_joined_0) lf_RX11_16 dX11_joined_1)) (kE_iload_n dX11_joined_4)) dX11_joined_5 c_Web_hasNode mv_Web_hasNode lm_RX11_129 ⟨rfl, rfl, by decide, by decide⟩ (by decide)) (kZf_1 (tgt := 22) dX11_joined_8 (by decide)))) (kCd_not (kCd_Z (kE_call (kEs_snoc (kEs_snoc kEs_nil (kE_get (kE_aload_n dX11_joined_11) lf_RX11_16 dX11_joined_12)) (kE_iload_n dX11_joined_15)) dX11_joined_16 c_Web_hasNode mv_Web_hasNode lm_RX11_129 ⟨rfl, rfl, by decide, by decide⟩ (by decide)) (kZt_1 (tgt := 32) dX11_joined_19 (by decide))))) kSt_throw kSt_skip)
  (kSt_ret (tag := 0) (kE_call (kEs_snoc (kEs_snoc (kEs_snoc kEs_nil (kE_get (kE_aload_n dX11_joined_32) lf_RX11_25 dX11_joined_33)) (kE_iload_n dX11_joined_36)) (kE_iload_n dX11_joined_37)) dX11_joined_38 c_Trees_together mv_Trees_together lm_RX11_173 ⟨rfl, rfl, by decide, by decide⟩ (by decide)) ⟨fun _ => dX11_joined_41, fun q => (by cases q), fun q => (by cases q)⟩))
def s_KP_two : kSx :=
  (sSeq (sIf (cOr (cNot (cZ 1 (eCall 10 F_Web_hasNode (eSnoc (eSnoc eNil (eGet 11 1 (eR 0))) (eI 1))))) (cNot (cZ 1 (eCall 10 F_Web_hasNode (eSnoc (eSnoc eNil (eGet 11 1 (eR 0))) (eI 2)))))) (sThrow 22) sSkip)
  (sRet 0 (eCall 9 F_Twice_together (eSnoc (eSnoc (eSnoc eNil (eGet 11 4 (eR 0))) (eI 1)) (eI 2)))))
abbrev M_KP_two : kM := (cX11_two, yX11_two.cls, 3, { frames := 4, cells := 0, slots := 0, locals := 95 }, (some .boolean))
set_option maxRecDepth 20000 in
theorem b_KP_two : kSt M_KP_two 0 0 0 0 s_KP_two :=
  (kSt_seq (kSt_if (kCd_or (kCd_not (kCd_Z (kE_call (kEs_snoc (kEs_snoc kEs_nil (kE_get (kE_aload_n dX11_two_0) lf_RX11_16 dX11_two_1)) (kE_iload_n dX11_two_4)) dX11_two_5 c_Web_hasNode mv_Web_hasNode lm_RX11_129 ⟨rfl, rfl, by decide, by decide⟩ (by decide)) (kZf_1 (tgt := 22) dX11_two_8 (by decide)))) (kCd_not (kCd_Z (kE_call (kEs_snoc (kEs_snoc kEs_nil (kE_get (kE_aload_n dX11_two_11) lf_RX11_16 dX11_two_12)) (kE_iload_n dX11_two_15)) dX11_two_16 c_Web_hasNode mv_Web_hasNode lm_RX11_129 ⟨rfl, rfl, by decide, by decide⟩ (by decide)) (kZt_1 (tgt := 32) dX11_two_19 (by decide))))) kSt_throw kSt_skip)
  (kSt_ret (tag := 0) (kE_call (kEs_snoc (kEs_snoc (kEs_snoc kEs_nil (kE_get (kE_aload_n dX11_two_32) lf_RX11_41 dX11_two_33)) (kE_iload_n dX11_two_36)) (kE_iload_n dX11_two_37)) dX11_two_38 c_Twice_together mv_Twice_together lm_RX11_176 ⟨rfl, rfl, by decide, by decide⟩ (by decide)) ⟨fun _ => dX11_two_41, fun q => (by cases q), fun q => (by cases q)⟩))
def sw_KP_of (z : Int) : kSx := if z = 0 then (sRet 0 (eCall 0 F_Chosen_weightOf (eSnoc (eSnoc eNil (eGet 11 8 (eR 0))) (eI 1)))) else
  if z = 1 then (sRet 0 (eAld 0 (eGet 8 2 (eGet 11 2 (eR 0))) (eI 1))) else
  if z = 2 then (sRet 0 (eCall 7 F_Strong_leastOf (eSnoc (eSnoc eNil (eGet 11 6 (eR 0))) (eI 1)))) else
  if z = 3 then (sRet 0 (eCall 5 F_Row_placeOf (eSnoc (eSnoc eNil (eGet 11 5 (eR 0))) (eI 1)))) else
  if z = 4 then (sRet 0 (eCall 6 F_Sides_coreOf (eSnoc (eSnoc eNil (eGet 11 7 (eR 0))) (eI 1)))) else
  if z = 5 then (sRet 0 (eIf (cZ 1 (eCall 0 F_Chosen_has (eSnoc (eSnoc eNil (eGet 11 8 (eR 0))) (eI 1)))) (eK (1)) (eK (0)))) else
  if z = 6 then (sRet 0 (eCall 6 F_Sides_countOf (eSnoc (eSnoc eNil (eGet 11 7 (eR 0))) (eI 1)))) else
  if z = 7 then (sRet 0 (eAld 0 (eGet 8 5 (eGet 11 2 (eR 0))) (eI 1))) else
  if z = 8 then (sRet 0 (eIf (cC 0 (eCall 3 F_OddArcs_leastIn (eSnoc (eSnoc eNil (eGet 11 3 (eR 0))) (eI 1))) (eK (-1))) (eK (1)) (eK (0)))) else
  (sThrow 172)
def s_KP_of : kSx :=
  (sSeq (sIf (cNot (cZ 1 (eCall 10 F_Web_hasNode (eSnoc (eSnoc eNil (eGet 11 1 (eR 0))) (eI 1))))) (sThrow 11) sSkip)
  (sSwitch (eI 2) sw_KP_of))
abbrev M_KP_of : kM := (cX11_of, yX11_of.cls, 3, { frames := 5, cells := 0, slots := 0, locals := 109 }, (some .int))
set_option maxRecDepth 20000 in
theorem b_KP_of : kSt M_KP_of 0 0 0 0 s_KP_of :=
  (kSt_seq (kSt_if (kCd_not (kCd_Z (kE_call (kEs_snoc (kEs_snoc kEs_nil (kE_get (kE_aload_n dX11_of_0) lf_RX11_16 dX11_of_1)) (kE_iload_n dX11_of_4)) dX11_of_5 c_Web_hasNode mv_Web_hasNode lm_RX11_129 ⟨rfl, rfl, by decide, by decide⟩ (by decide)) (kZt_1 (tgt := 21) dX11_of_8 (by decide)))) kSt_throw kSt_skip)
  (kSt_tsw (f := sw_KP_of) (kE_iload_n dX11_of_21) dX11_of_22 (fun z => by
    unfold sw_KP_of
    by_cases h0 : z = 0
    · subst h0; exact ⟨72, Or.inr ⟨by decide, by decide, 50, rfl, by decide⟩, by
      first | (simp only [reduceIte, Int.reduceEq]; exact (kSt_ret (tag := 0) (kE_call (kEs_snoc (kEs_snoc kEs_nil (kE_get (kE_aload_n dX11_of_72) lf_RX11_69 dX11_of_73)) (kE_iload_n dX11_of_76)) dX11_of_77 c_Chosen_weightOf mv_Chosen_weightOf lm_RX11_177 ⟨rfl, rfl, by decide, by decide⟩ (by decide)) ⟨fun _ => dX11_of_80, fun q => (by cases q), fun q => (by cases q)⟩)) | (simp; exact (kSt_ret (tag := 0) (kE_call (kEs_snoc (kEs_snoc kEs_nil (kE_get (kE_aload_n dX11_of_72) lf_RX11_69 dX11_of_73)) (kE_iload_n dX11_of_76)) dX11_of_77 c_Chosen_weightOf mv_Chosen_weightOf lm_RX11_177 ⟨rfl, rfl, by decide, by decide⟩ (by decide)) ⟨fun _ => dX11_of_80, fun q => (by cases q), fun q => (by cases q)⟩))⟩
    by_cases h1 : z = 1
    · subst h1; exact ⟨81, Or.inr ⟨by decide, by decide, 59, rfl, by decide⟩, by
      first | (simp only [reduceIte, Int.reduceEq]; exact (kSt_ret (tag := 0) (kE_iald (kE_get (kE_get (kE_aload_n dX11_of_81) lf_RX11_25 dX11_of_82) lf_RX11_180 dX11_of_85) (kE_iload_n dX11_of_88) dX11_of_89) ⟨fun _ => dX11_of_90, fun q => (by cases q), fun q => (by cases q)⟩)) | (simp; exact (kSt_ret (tag := 0) (kE_iald (kE_get (kE_get (kE_aload_n dX11_of_81) lf_RX11_25 dX11_of_82) lf_RX11_180 dX11_of_85) (kE_iload_n dX11_of_88) dX11_of_89) ⟨fun _ => dX11_of_90, fun q => (by cases q), fun q => (by cases q)⟩))⟩
    by_cases h2 : z = 2
    · subst h2; exact ⟨91, Or.inr ⟨by decide, by decide, 69, rfl, by decide⟩, by
      first | (simp only [reduceIte, Int.reduceEq]; exact (kSt_ret (tag := 0) (kE_call (kEs_snoc (kEs_snoc kEs_nil (kE_get (kE_aload_n dX11_of_91) lf_RX11_55 dX11_of_92)) (kE_iload_n dX11_of_95)) dX11_of_96 c_Strong_leastOf mv_Strong_leastOf lm_RX11_183 ⟨rfl, rfl, by decide, by decide⟩ (by decide)) ⟨fun _ => dX11_of_99, fun q => (by cases q), fun q => (by cases q)⟩)) | (simp; exact (kSt_ret (tag := 0) (kE_call (kEs_snoc (kEs_snoc kEs_nil (kE_get (kE_aload_n dX11_of_91) lf_RX11_55 dX11_of_92)) (kE_iload_n dX11_of_95)) dX11_of_96 c_Strong_leastOf mv_Strong_leastOf lm_RX11_183 ⟨rfl, rfl, by decide, by decide⟩ (by decide)) ⟨fun _ => dX11_of_99, fun q => (by cases q), fun q => (by cases q)⟩))⟩
    by_cases h3 : z = 3
    · subst h3; exact ⟨100, Or.inr ⟨by decide, by decide, 78, rfl, by decide⟩, by
      first | (simp only [reduceIte, Int.reduceEq]; exact (kSt_ret (tag := 0) (kE_call (kEs_snoc (kEs_snoc kEs_nil (kE_get (kE_aload_n dX11_of_100) lf_RX11_48 dX11_of_101)) (kE_iload_n dX11_of_104)) dX11_of_105 c_Row_placeOf mv_Row_placeOf lm_RX11_186 ⟨rfl, rfl, by decide, by decide⟩ (by decide)) ⟨fun _ => dX11_of_108, fun q => (by cases q), fun q => (by cases q)⟩)) | (simp; exact (kSt_ret (tag := 0) (kE_call (kEs_snoc (kEs_snoc kEs_nil (kE_get (kE_aload_n dX11_of_100) lf_RX11_48 dX11_of_101)) (kE_iload_n dX11_of_104)) dX11_of_105 c_Row_placeOf mv_Row_placeOf lm_RX11_186 ⟨rfl, rfl, by decide, by decide⟩ (by decide)) ⟨fun _ => dX11_of_108, fun q => (by cases q), fun q => (by cases q)⟩))⟩
    by_cases h4 : z = 4
    · subst h4; exact ⟨109, Or.inr ⟨by decide, by decide, 87, rfl, by decide⟩, by
      first | (simp only [reduceIte, Int.reduceEq]; exact (kSt_ret (tag := 0) (kE_call (kEs_snoc (kEs_snoc kEs_nil (kE_get (kE_aload_n dX11_of_109) lf_RX11_62 dX11_of_110)) (kE_iload_n dX11_of_113)) dX11_of_114 c_Sides_coreOf mv_Sides_coreOf lm_RX11_189 ⟨rfl, rfl, by decide, by decide⟩ (by decide)) ⟨fun _ => dX11_of_117, fun q => (by cases q), fun q => (by cases q)⟩)) | (simp; exact (kSt_ret (tag := 0) (kE_call (kEs_snoc (kEs_snoc kEs_nil (kE_get (kE_aload_n dX11_of_109) lf_RX11_62 dX11_of_110)) (kE_iload_n dX11_of_113)) dX11_of_114 c_Sides_coreOf mv_Sides_coreOf lm_RX11_189 ⟨rfl, rfl, by decide, by decide⟩ (by decide)) ⟨fun _ => dX11_of_117, fun q => (by cases q), fun q => (by cases q)⟩))⟩
    by_cases h5 : z = 5
    · subst h5; exact ⟨118, Or.inr ⟨by decide, by decide, 96, rfl, by decide⟩, by
      first | (simp only [reduceIte, Int.reduceEq]; exact (kSt_ret (tag := 0) (kE_if (kCd_Z (kE_call (kEs_snoc (kEs_snoc kEs_nil (kE_get (kE_aload_n dX11_of_118) lf_RX11_69 dX11_of_119)) (kE_iload_n dX11_of_122)) dX11_of_123 c_Chosen_has mv_Chosen_has lm_RX11_192 ⟨rfl, rfl, by decide, by decide⟩ (by decide)) (kZf_1 (tgt := 133) dX11_of_126 (by decide))) (kE_goto (tgt := 134) (kE_iconst dX11_of_129 ⟨by decide, by decide⟩) dX11_of_130 (by decide)) (kE_iconst dX11_of_133 ⟨by decide, by decide⟩)) ⟨fun _ => dX11_of_134, fun q => (by cases q), fun q => (by cases q)⟩)) | (simp; exact (kSt_ret (tag := 0) (kE_if (kCd_Z (kE_call (kEs_snoc (kEs_snoc kEs_nil (kE_get (kE_aload_n dX11_of_118) lf_RX11_69 dX11_of_119)) (kE_iload_n dX11_of_122)) dX11_of_123 c_Chosen_has mv_Chosen_has lm_RX11_192 ⟨rfl, rfl, by decide, by decide⟩ (by decide)) (kZf_1 (tgt := 133) dX11_of_126 (by decide))) (kE_goto (tgt := 134) (kE_iconst dX11_of_129 ⟨by decide, by decide⟩) dX11_of_130 (by decide)) (kE_iconst dX11_of_133 ⟨by decide, by decide⟩)) ⟨fun _ => dX11_of_134, fun q => (by cases q), fun q => (by cases q)⟩))⟩
    by_cases h6 : z = 6
    · subst h6; exact ⟨135, Or.inr ⟨by decide, by decide, 113, rfl, by decide⟩, by
      first | (simp only [reduceIte, Int.reduceEq]; exact (kSt_ret (tag := 0) (kE_call (kEs_snoc (kEs_snoc kEs_nil (kE_get (kE_aload_n dX11_of_135) lf_RX11_62 dX11_of_136)) (kE_iload_n dX11_of_139)) dX11_of_140 c_Sides_countOf mv_Sides_countOf lm_RX11_195 ⟨rfl, rfl, by decide, by decide⟩ (by decide)) ⟨fun _ => dX11_of_143, fun q => (by cases q), fun q => (by cases q)⟩)) | (simp; exact (kSt_ret (tag := 0) (kE_call (kEs_snoc (kEs_snoc kEs_nil (kE_get (kE_aload_n dX11_of_135) lf_RX11_62 dX11_of_136)) (kE_iload_n dX11_of_139)) dX11_of_140 c_Sides_countOf mv_Sides_countOf lm_RX11_195 ⟨rfl, rfl, by decide, by decide⟩ (by decide)) ⟨fun _ => dX11_of_143, fun q => (by cases q), fun q => (by cases q)⟩))⟩
    by_cases h7 : z = 7
    · subst h7; exact ⟨144, Or.inr ⟨by decide, by decide, 122, rfl, by decide⟩, by
      first | (simp only [reduceIte, Int.reduceEq]; exact (kSt_ret (tag := 0) (kE_iald (kE_get (kE_get (kE_aload_n dX11_of_144) lf_RX11_25 dX11_of_145) lf_RX11_198 dX11_of_148) (kE_iload_n dX11_of_151) dX11_of_152) ⟨fun _ => dX11_of_153, fun q => (by cases q), fun q => (by cases q)⟩)) | (simp; exact (kSt_ret (tag := 0) (kE_iald (kE_get (kE_get (kE_aload_n dX11_of_144) lf_RX11_25 dX11_of_145) lf_RX11_198 dX11_of_148) (kE_iload_n dX11_of_151) dX11_of_152) ⟨fun _ => dX11_of_153, fun q => (by cases q), fun q => (by cases q)⟩))⟩
    by_cases h8 : z = 8
    · subst h8; exact ⟨154, Or.inr ⟨by decide, by decide, 132, rfl, by decide⟩, by
      first | (simp only [reduceIte, Int.reduceEq]; exact (kSt_ret (tag := 0) (kE_if (kCd_C (kE_call (kEs_snoc (kEs_snoc kEs_nil (kE_get (kE_aload_n dX11_of_154) lf_RX11_34 dX11_of_155)) (kE_iload_n dX11_of_158)) dX11_of_159 c_OddArcs_leastIn mv_OddArcs_leastIn lm_RX11_201 ⟨rfl, rfl, by decide, by decide⟩ (by decide)) (kE_iconst dX11_of_162 ⟨by decide, by decide⟩) (kJf_0 (tgt := 170) dX11_of_163 (by decide))) (kE_goto (tgt := 171) (kE_iconst dX11_of_166 ⟨by decide, by decide⟩) dX11_of_167 (by decide)) (kE_iconst dX11_of_170 ⟨by decide, by decide⟩)) ⟨fun _ => dX11_of_171, fun q => (by cases q), fun q => (by cases q)⟩)) | (simp; exact (kSt_ret (tag := 0) (kE_if (kCd_C (kE_call (kEs_snoc (kEs_snoc kEs_nil (kE_get (kE_aload_n dX11_of_154) lf_RX11_34 dX11_of_155)) (kE_iload_n dX11_of_158)) dX11_of_159 c_OddArcs_leastIn mv_OddArcs_leastIn lm_RX11_201 ⟨rfl, rfl, by decide, by decide⟩ (by decide)) (kE_iconst dX11_of_162 ⟨by decide, by decide⟩) (kJf_0 (tgt := 170) dX11_of_163 (by decide))) (kE_goto (tgt := 171) (kE_iconst dX11_of_166 ⟨by decide, by decide⟩) dX11_of_167 (by decide)) (kE_iconst dX11_of_170 ⟨by decide, by decide⟩)) ⟨fun _ => dX11_of_171, fun q => (by cases q), fun q => (by cases q)⟩))⟩
    refine ⟨172, Or.inl ⟨by omega, by decide⟩, ?_⟩
    simp only [h0, h1, h2, h3, h4, h5, h6, h7, h8]; exact kSt_throw)))
def sw_KP_arc (z : Int) : kSx := if z = 0 then (sRet 0 (eAld 0 (eGet 10 0 (eGet 11 1 (eR 0))) (eI 1))) else
  if z = 1 then (sRet 0 (eAld 0 (eGet 10 1 (eGet 11 1 (eR 0))) (eI 1))) else
  if z = 2 then (sRet 0 (eAld 0 (eGet 8 0 (eGet 11 2 (eR 0))) (eI 1))) else
  if z = 3 then (sRet 0 (eIf (cZ 1 (eAld 1 (eGet 8 1 (eGet 11 2 (eR 0))) (eI 1))) (eK (1)) (eK (0)))) else
  if z = 4 then (sRet 0 (eIf (cZ 1 (eCall 3 F_OddArcs_has (eSnoc (eSnoc eNil (eGet 11 3 (eR 0))) (eI 1)))) (eK (1)) (eK (0)))) else
  if z = 5 then (sRet 0 (eIf (cZ 1 (eCall 9 F_Twice_isBridge (eSnoc (eSnoc eNil (eGet 11 4 (eR 0))) (eI 1)))) (eK (1)) (eK (0)))) else
  if z = 6 then (sRet 0 (eIf (cZ 1 (eAld 1 (eGet 5 0 (eGet 11 5 (eR 0))) (eI 1))) (eK (1)) (eK (0)))) else
  (sThrow 164)
def s_KP_arc : kSx :=
  (sSeq (sIf (cNot (cZ 1 (eCall 10 F_Web_hasArc (eSnoc (eSnoc eNil (eGet 11 1 (eR 0))) (eI 1))))) (sThrow 11) sSkip)
  (sSwitch (eI 2) sw_KP_arc))
abbrev M_KP_arc : kM := (cX11_arc, yX11_arc.cls, 3, { frames := 5, cells := 0, slots := 0, locals := 116 }, (some .int))
set_option maxRecDepth 20000 in
theorem b_KP_arc : kSt M_KP_arc 0 0 0 0 s_KP_arc :=
  (kSt_seq (kSt_if (kCd_not (kCd_Z (kE_call (kEs_snoc (kEs_snoc kEs_nil (kE_get (kE_aload_n dX11_arc_0) lf_RX11_16 dX11_arc_1)) (kE_iload_n dX11_arc_4)) dX11_arc_5 c_Web_hasArc mv_Web_hasArc lm_RX11_143 ⟨rfl, rfl, by decide, by decide⟩ (by decide)) (kZt_1 (tgt := 21) dX11_arc_8 (by decide)))) kSt_throw kSt_skip)
  (kSt_tsw (f := sw_KP_arc) (kE_iload_n dX11_arc_21) dX11_arc_22 (fun z => by
    unfold sw_KP_arc
    by_cases h0 : z = 0
    · subst h0; exact ⟨64, Or.inr ⟨by decide, by decide, 42, rfl, by decide⟩, by
      first | (simp only [reduceIte, Int.reduceEq]; exact (kSt_ret (tag := 0) (kE_iald (kE_get (kE_get (kE_aload_n dX11_arc_64) lf_RX11_16 dX11_arc_65) lf_RX11_156 dX11_arc_68) (kE_iload_n dX11_arc_71) dX11_arc_72) ⟨fun _ => dX11_arc_73, fun q => (by cases q), fun q => (by cases q)⟩)) | (simp; exact (kSt_ret (tag := 0) (kE_iald (kE_get (kE_get (kE_aload_n dX11_arc_64) lf_RX11_16 dX11_arc_65) lf_RX11_156 dX11_arc_68) (kE_iload_n dX11_arc_71) dX11_arc_72) ⟨fun _ => dX11_arc_73, fun q => (by cases q), fun q => (by cases q)⟩))⟩
    by_cases h1 : z = 1
    · subst h1; exact ⟨74, Or.inr ⟨by decide, by decide, 52, rfl, by decide⟩, by
      first | (simp only [reduceIte, Int.reduceEq]; exact (kSt_ret (tag := 0) (kE_iald (kE_get (kE_get (kE_aload_n dX11_arc_74) lf_RX11_16 dX11_arc_75) lf_RX11_160 dX11_arc_78) (kE_iload_n dX11_arc_81) dX11_arc_82) ⟨fun _ => dX11_arc_83, fun q => (by cases q), fun q => (by cases q)⟩)) | (simp; exact (kSt_ret (tag := 0) (kE_iald (kE_get (kE_get (kE_aload_n dX11_arc_74) lf_RX11_16 dX11_arc_75) lf_RX11_160 dX11_arc_78) (kE_iload_n dX11_arc_81) dX11_arc_82) ⟨fun _ => dX11_arc_83, fun q => (by cases q), fun q => (by cases q)⟩))⟩
    by_cases h2 : z = 2
    · subst h2; exact ⟨84, Or.inr ⟨by decide, by decide, 62, rfl, by decide⟩, by
      first | (simp only [reduceIte, Int.reduceEq]; exact (kSt_ret (tag := 0) (kE_iald (kE_get (kE_get (kE_aload_n dX11_arc_84) lf_RX11_25 dX11_arc_85) lf_RX11_206 dX11_arc_88) (kE_iload_n dX11_arc_91) dX11_arc_92) ⟨fun _ => dX11_arc_93, fun q => (by cases q), fun q => (by cases q)⟩)) | (simp; exact (kSt_ret (tag := 0) (kE_iald (kE_get (kE_get (kE_aload_n dX11_arc_84) lf_RX11_25 dX11_arc_85) lf_RX11_206 dX11_arc_88) (kE_iload_n dX11_arc_91) dX11_arc_92) ⟨fun _ => dX11_arc_93, fun q => (by cases q), fun q => (by cases q)⟩))⟩
    by_cases h3 : z = 3
    · subst h3; exact ⟨94, Or.inr ⟨by decide, by decide, 72, rfl, by decide⟩, by
      first | (simp only [reduceIte, Int.reduceEq]; exact (kSt_ret (tag := 0) (kE_if (kCd_Z (kE_zald (kE_get (kE_get (kE_aload_n dX11_arc_94) lf_RX11_25 dX11_arc_95) lf_RX11_209 dX11_arc_98) (kE_iload_n dX11_arc_101) dX11_arc_102) (kZf_1 (tgt := 110) dX11_arc_103 (by decide))) (kE_goto (tgt := 111) (kE_iconst dX11_arc_106 ⟨by decide, by decide⟩) dX11_arc_107 (by decide)) (kE_iconst dX11_arc_110 ⟨by decide, by decide⟩)) ⟨fun _ => dX11_arc_111, fun q => (by cases q), fun q => (by cases q)⟩)) | (simp; exact (kSt_ret (tag := 0) (kE_if (kCd_Z (kE_zald (kE_get (kE_get (kE_aload_n dX11_arc_94) lf_RX11_25 dX11_arc_95) lf_RX11_209 dX11_arc_98) (kE_iload_n dX11_arc_101) dX11_arc_102) (kZf_1 (tgt := 110) dX11_arc_103 (by decide))) (kE_goto (tgt := 111) (kE_iconst dX11_arc_106 ⟨by decide, by decide⟩) dX11_arc_107 (by decide)) (kE_iconst dX11_arc_110 ⟨by decide, by decide⟩)) ⟨fun _ => dX11_arc_111, fun q => (by cases q), fun q => (by cases q)⟩))⟩
    by_cases h4 : z = 4
    · subst h4; exact ⟨112, Or.inr ⟨by decide, by decide, 90, rfl, by decide⟩, by
      first | (simp only [reduceIte, Int.reduceEq]; exact (kSt_ret (tag := 0) (kE_if (kCd_Z (kE_call (kEs_snoc (kEs_snoc kEs_nil (kE_get (kE_aload_n dX11_arc_112) lf_RX11_34 dX11_arc_113)) (kE_iload_n dX11_arc_116)) dX11_arc_117 c_OddArcs_has mv_OddArcs_has lm_RX11_213 ⟨rfl, rfl, by decide, by decide⟩ (by decide)) (kZf_1 (tgt := 127) dX11_arc_120 (by decide))) (kE_goto (tgt := 128) (kE_iconst dX11_arc_123 ⟨by decide, by decide⟩) dX11_arc_124 (by decide)) (kE_iconst dX11_arc_127 ⟨by decide, by decide⟩)) ⟨fun _ => dX11_arc_128, fun q => (by cases q), fun q => (by cases q)⟩)) | (simp; exact (kSt_ret (tag := 0) (kE_if (kCd_Z (kE_call (kEs_snoc (kEs_snoc kEs_nil (kE_get (kE_aload_n dX11_arc_112) lf_RX11_34 dX11_arc_113)) (kE_iload_n dX11_arc_116)) dX11_arc_117 c_OddArcs_has mv_OddArcs_has lm_RX11_213 ⟨rfl, rfl, by decide, by decide⟩ (by decide)) (kZf_1 (tgt := 127) dX11_arc_120 (by decide))) (kE_goto (tgt := 128) (kE_iconst dX11_arc_123 ⟨by decide, by decide⟩) dX11_arc_124 (by decide)) (kE_iconst dX11_arc_127 ⟨by decide, by decide⟩)) ⟨fun _ => dX11_arc_128, fun q => (by cases q), fun q => (by cases q)⟩))⟩
    by_cases h5 : z = 5
    · subst h5; exact ⟨129, Or.inr ⟨by decide, by decide, 107, rfl, by decide⟩, by
      first | (simp only [reduceIte, Int.reduceEq]; exact (kSt_ret (tag := 0) (kE_if (kCd_Z (kE_call (kEs_snoc (kEs_snoc kEs_nil (kE_get (kE_aload_n dX11_arc_129) lf_RX11_41 dX11_arc_130)) (kE_iload_n dX11_arc_133)) dX11_arc_134 c_Twice_isBridge mv_Twice_isBridge lm_RX11_214 ⟨rfl, rfl, by decide, by decide⟩ (by decide)) (kZf_1 (tgt := 144) dX11_arc_137 (by decide))) (kE_goto (tgt := 145) (kE_iconst dX11_arc_140 ⟨by decide, by decide⟩) dX11_arc_141 (by decide)) (kE_iconst dX11_arc_144 ⟨by decide, by decide⟩)) ⟨fun _ => dX11_arc_145, fun q => (by cases q), fun q => (by cases q)⟩)) | (simp; exact (kSt_ret (tag := 0) (kE_if (kCd_Z (kE_call (kEs_snoc (kEs_snoc kEs_nil (kE_get (kE_aload_n dX11_arc_129) lf_RX11_41 dX11_arc_130)) (kE_iload_n dX11_arc_133)) dX11_arc_134 c_Twice_isBridge mv_Twice_isBridge lm_RX11_214 ⟨rfl, rfl, by decide, by decide⟩ (by decide)) (kZf_1 (tgt := 144) dX11_arc_137 (by decide))) (kE_goto (tgt := 145) (kE_iconst dX11_arc_140 ⟨by decide, by decide⟩) dX11_arc_141 (by decide)) (kE_iconst dX11_arc_144 ⟨by decide, by decide⟩)) ⟨fun _ => dX11_arc_145, fun q => (by cases q), fun q => (by cases q)⟩))⟩
    by_cases h6 : z = 6
    · subst h6; exact ⟨146, Or.inr ⟨by decide, by decide, 124, rfl, by decide⟩, by
      first | (simp only [reduceIte, Int.reduceEq]; exact (kSt_ret (tag := 0) (kE_if (kCd_Z (kE_zald (kE_get (kE_get (kE_aload_n dX11_arc_146) lf_RX11_48 dX11_arc_147) lf_RX11_217 dX11_arc_150) (kE_iload_n dX11_arc_153) dX11_arc_154) (kZf_1 (tgt := 162) dX11_arc_155 (by decide))) (kE_goto (tgt := 163) (kE_iconst dX11_arc_158 ⟨by decide, by decide⟩) dX11_arc_159 (by decide)) (kE_iconst dX11_arc_162 ⟨by decide, by decide⟩)) ⟨fun _ => dX11_arc_163, fun q => (by cases q), fun q => (by cases q)⟩)) | (simp; exact (kSt_ret (tag := 0) (kE_if (kCd_Z (kE_zald (kE_get (kE_get (kE_aload_n dX11_arc_146) lf_RX11_48 dX11_arc_147) lf_RX11_217 dX11_arc_150) (kE_iload_n dX11_arc_153) dX11_arc_154) (kZf_1 (tgt := 162) dX11_arc_155 (by decide))) (kE_goto (tgt := 163) (kE_iconst dX11_arc_158 ⟨by decide, by decide⟩) dX11_arc_159 (by decide)) (kE_iconst dX11_arc_162 ⟨by decide, by decide⟩)) ⟨fun _ => dX11_arc_163, fun q => (by cases q), fun q => (by cases q)⟩))⟩
    refine ⟨164, Or.inl ⟨by omega, by decide⟩, ?_⟩
    simp only [h0, h1, h2, h3, h4, h5, h6]; exact kSt_throw)))
def s_KP_order : kSx :=
  (sSeq (sIf (cOr (cZ 2 (eI 1)) (cC 3 (eI 1) (eGet 10 3 (eGet 11 1 (eR 0))))) (sThrow 15) sSkip)
  (sRet 0 (eCall 5 F_Row_nodeAt (eSnoc (eSnoc eNil (eGet 11 5 (eR 0))) (eI 1)))))
abbrev M_KP_order : kM := (cX11_order, yX11_order.cls, 2, { frames := 1, cells := 0, slots := 0, locals := 21 }, (some .int))
set_option maxRecDepth 20000 in
theorem b_KP_order : kSt M_KP_order 0 0 0 0 s_KP_order :=
  (kSt_seq (kSt_if (kCd_or (kCd_Z (kE_iload_n dX11_order_0) (kZt_2 (tgt := 15) dX11_order_1 (by decide))) (kCd_C (kE_iload_n dX11_order_4) (kE_get (kE_get (kE_aload_n dX11_order_5) lf_RX11_16 dX11_order_6) lf_RX11_96 dX11_order_9) (kJf_3 (tgt := 25) dX11_order_12 (by decide)))) kSt_throw kSt_skip)
  (kSt_ret (tag := 0) (kE_call (kEs_snoc (kEs_snoc kEs_nil (kE_get (kE_aload_n dX11_order_25) lf_RX11_48 dX11_order_26)) (kE_iload_n dX11_order_29)) dX11_order_30 c_Row_nodeAt mv_Row_nodeAt lm_RX11_222 ⟨rfl, rfl, by decide, by decide⟩ (by decide)) ⟨fun _ => dX11_order_33, fun q => (by cases q), fun q => (by cases q)⟩))
def s_KP_odd : kSx :=
  (sSeq (sIf (cOr (cNot (cZ 1 (eCall 10 F_Web_hasNode (eSnoc (eSnoc eNil (eGet 11 1 (eR 0))) (eI 1))))) (cZ 2 (eI 2))) (sThrow 15) sSkip)
  (sRet 0 (eCall 3 F_OddArcs_ringArc (eSnoc (eSnoc (eSnoc eNil (eGet 11 3 (eR 0))) (eI 1)) (eI 2)))))
abbrev M_KP_odd : kM := (cX11_odd, yX11_odd.cls, 3, { frames := 3, cells := 0, slots := 0, locals := 77 }, (some .int))
set_option maxRecDepth 20000 in
theorem b_KP_odd : kSt M_KP_odd 0 0 0 0 s_KP_odd :=
  (kSt_seq (kSt_if (kCd_or (kCd_not (kCd_Z (kE_call (kEs_snoc (kEs_snoc kEs_nil (kE_get (kE_aload_n dX11_odd_0) lf_RX11_16 dX11_odd_1)) (kE_iload_n dX11_odd_4)) dX11_odd_5 c_Web_hasNode mv_Web_hasNode lm_RX11_129 ⟨rfl, rfl, by decide, by decide⟩ (by decide)) (kZf_1 (tgt := 15) dX11_odd_8 (by decide)))) (kCd_Z (kE_iload_n dX11_odd_11) (kZf_2 (tgt := 25) dX11_odd_12 (by decide)))) kSt_throw kSt_skip)
  (kSt_ret (tag := 0) (kE_call (kEs_snoc (kEs_snoc (kEs_snoc kEs_nil (kE_get (kE_aload_n dX11_odd_25) lf_RX11_34 dX11_odd_26)) (kE_iload_n dX11_odd_29)) (kE_iload_n dX11_odd_30)) dX11_odd_31 c_OddArcs_ringArc mv_OddArcs_ringArc lm_RX11_227 ⟨rfl, rfl, by decide, by decide⟩ (by decide)) ⟨fun _ => dX11_odd_34, fun q => (by cases q), fun q => (by cases q)⟩))
def s_KP_ring : kSx :=
  (sSeq (sIf (cZ 2 (eI 1)) (sThrow 4) sSkip)
  (sRet 0 (eCall 5 F_Row_ringArc (eSnoc (eSnoc eNil (eGet 11 5 (eR 0))) (eI 1)))))
abbrev M_KP_ring : kM := (cX11_ring, yX11_ring.cls, 2, { frames := 1, cells := 0, slots := 0, locals := 21 }, (some .int))
set_option maxRecDepth 20000 in
theorem b_KP_ring : kSt M_KP_ring 0 0 0 0 s_KP_ring :=
  (kSt_seq (kSt_if (kCd_Z (kE_iload_n dX11_ring_0) (kZf_2 (tgt := 14) dX11_ring_1 (by decide))) kSt_throw kSt_skip)
  (kSt_ret (tag := 0) (kE_call (kEs_snoc (kEs_snoc kEs_nil (kE_get (kE_aload_n dX11_ring_14) lf_RX11_48 dX11_ring_15)) (kE_iload_n dX11_ring_18)) dX11_ring_19 c_Row_ringArc mv_Row_ringArc lm_RX11_232 ⟨rfl, rfl, by decide, by decide⟩ (by decide)) ⟨fun _ => dX11_ring_22, fun q => (by cases q), fun q => (by cases q)⟩))
def s_KP_triangles : kSx :=
  (sRet 2 (eCall 6 F_Sides_countedThrees (eSnoc eNil (eGet 11 7 (eR 0)))))
abbrev M_KP_triangles : kM := (cX11_triangles, yX11_triangles.cls, 1, { frames := 5, cells := 0, slots := 0, locals := 108 }, (some .long))
set_option maxRecDepth 20000 in
theorem b_KP_triangles : kSt M_KP_triangles 0 0 0 0 s_KP_triangles :=
  (kSt_ret (tag := 2) (kE_call (kEs_snoc kEs_nil (kE_get (kE_aload_n dX11_triangles_0) lf_RX11_62 dX11_triangles_1)) dX11_triangles_4 c_Sides_countedThrees mv_Sides_countedThrees lm_RX11_234 ⟨rfl, rfl, by decide, by decide⟩ (by decide)) ⟨fun q => (by cases q), fun q => (by cases q), fun _ => dX11_triangles_7⟩)
def F_KP_triangles : kFn := kF 1 kJl s_KP_triangles
theorem c_KP_triangles : kCon yX11_triangles cX11_triangles 1 (some .long) { frames := 5, cells := 0, slots := 0, locals := 108 } F_KP_triangles := kCon_of kEnds_J (by decide +kernel) (by decide) ⟨0, 0, 0, b_KP_triangles⟩
def s_KP_planPut : kSx :=
  (sSeq (sIf (cOr (cNot (cZ 1 (eCall 10 F_Web_hasNode (eSnoc (eSnoc eNil (eGet 11 1 (eR 0))) (eI 1))))) (cNot (cZ 1 (eCall 10 F_Web_hasNode (eSnoc (eSnoc eNil (eGet 11 1 (eR 0))) (eI 2)))))) (sThrow 22) sSkip)
  (sSeq (sIf (cZ 1 (eCall 4 F_Plan_isFull (eSnoc eNil (eGet 11 9 (eR 0))))) (sThrow 42) sSkip)
  (sRet 0 (eCall 4 F_Plan_addPut (eSnoc (eSnoc (eSnoc eNil (eGet 11 9 (eR 0))) (eI 1)) (eI 2))))))
abbrev M_KP_planPut : kM := (cX11_planPut, yX11_planPut.cls, 3, { frames := 1, cells := 0, slots := 0, locals := 23 }, (some .int))
set_option maxRecDepth 20000 in
theorem b_KP_planPut : kSt M_KP_planPut 0 0 0 0 s_KP_planPut :=
  (kSt_seq (kSt_if (kCd_or (kCd_not (kCd_Z (kE_call (kEs_snoc (kEs_snoc kEs_nil (kE_get (kE_aload_n dX11_planPut_0) lf_RX11_16 dX11_planPut_1)) (kE_iload_n dX11_planPut_4)) dX11_planPut_5 c_Web_hasNode mv_Web_hasNode lm_RX11_129 ⟨rfl, rfl, by decide, by decide⟩ (by decide)) (kZf_1 (tgt := 22) dX11_planPut_8 (by decide)))) (kCd_not (kCd_Z (kE_call (kEs_snoc (kEs_snoc kEs_nil (kE_get (kE_aload_n dX11_planPut_11) lf_RX11_16 dX11_planPut_12)) (kE_iload_n dX11_planPut_15)) dX11_planPut_16 c_Web_hasNode mv_Web_hasNode lm_RX11_129 ⟨rfl, rfl, by decide, by decide⟩ (by decide)) (kZt_1 (tgt := 32) dX11_planPut_19 (by decide))))) kSt_throw kSt_skip)
  (kSt_seq (kSt_if (kCd_Z (kE_call (kEs_snoc kEs_nil (kE_get (kE_aload_n dX11_planPut_32) lf_RX11_85 dX11_planPut_33)) dX11_planPut_36 c_Plan_isFull mv_Plan_isFull lm_RX11_238 ⟨rfl, rfl, by decide, by decide⟩ (by decide)) (kZf_1 (tgt := 52) dX11_planPut_39 (by decide))) kSt_throw kSt_skip)
  (kSt_ret (tag := 0) (kE_call (kEs_snoc (kEs_snoc (kEs_snoc kEs_nil (kE_get (kE_aload_n dX11_planPut_52) lf_RX11_85 dX11_planPut_53)) (kE_iload_n dX11_planPut_56)) (kE_iload_n dX11_planPut_57)) dX11_planPut_58 c_Plan_addPut mv_Plan_addPut lm_RX11_244 ⟨rfl, rfl, by decide, by decide⟩ (by decide)) ⟨fun _ => dX11_planPut_61, fun q => (by cases q), fun q => (by cases q)⟩)))
def s_KP_planTake : kSx :=
  (sSeq (sIf (cAnd (cNot (cZ 1 (eCall 10 F_Web_hasArc (eSnoc (eSnoc eNil (eGet 11 1 (eR 0))) (eI 1))))) (cNot (cZ 1 (eCall 4 F_Plan_puts (eSnoc (eSnoc eNil (eGet 11 9 (eR 0))) (eBin kSub (eK (-1)) (eI 1))))))) (sThrow 24) sSkip)
  (sSeq (sIf (cZ 1 (eCall 4 F_Plan_takes (eSnoc (eSnoc eNil (eGet 11 9 (eR 0))) (eI 1)))) (sThrow 45) sSkip)
  (sSeq (sIf (cZ 1 (eCall 4 F_Plan_isFull (eSnoc eNil (eGet 11 9 (eR 0))))) (sThrow 66) sSkip)
  (sRet 0 (eCall 4 F_Plan_addTake (eSnoc (eSnoc eNil (eGet 11 9 (eR 0))) (eI 1)))))))
abbrev M_KP_planTake : kM := (cX11_planTake, yX11_planTake.cls, 2, { frames := 2, cells := 0, slots := 0, locals := 44 }, (some .int))
set_option maxRecDepth 20000 in
theorem b_KP_planTake : kSt M_KP_planTake 0 0 0 0 s_KP_planTake :=
  (kSt_seq (kSt_if (kCd_and (kCd_not (kCd_Z (kE_call (kEs_snoc (kEs_snoc kEs_nil (kE_get (kE_aload_n dX11_planTake_0) lf_RX11_16 dX11_planTake_1)) (kE_iload_n dX11_planTake_4)) dX11_planTake_5 c_Web_hasArc mv_Web_hasArc lm_RX11_143 ⟨rfl, rfl, by decide, by decide⟩ (by decide)) (kZt_1 (tgt := 34) dX11_planTake_8 (by decide)))) (kCd_not (kCd_Z (kE_call (kEs_snoc (kEs_snoc kEs_nil (kE_get (kE_aload_n dX11_planTake_11) lf_RX11_85 dX11_planTake_12)) (kE_bin (kE_iconst dX11_planTake_15 ⟨by decide, by decide⟩) (kE_iload_n dX11_planTake_16) (kOp_sub dX11_planTake_17))) dX11_planTake_18 c_Plan_puts mv_Plan_puts lm_RX11_247 ⟨rfl, rfl, by decide, by decide⟩ (by decide)) (kZt_1 (tgt := 34) dX11_planTake_21 (by decide))))) kSt_throw kSt_skip)
  (kSt_seq (kSt_if (kCd_Z (kE_call (kEs_snoc (kEs_snoc kEs_nil (kE_get (kE_aload_n dX11_planTake_34) lf_RX11_85 dX11_planTake_35)) (kE_iload_n dX11_planTake_38)) dX11_planTake_39 c_Plan_takes mv_Plan_takes lm_RX11_252 ⟨rfl, rfl, by decide, by decide⟩ (by decide)) (kZf_1 (tgt := 56) dX11_planTake_42 (by decide))) kSt_throw kSt_skip)
  (kSt_seq (kSt_if (kCd_Z (kE_call (kEs_snoc kEs_nil (kE_get (kE_aload_n dX11_planTake_56) lf_RX11_85 dX11_planTake_57)) dX11_planTake_60 c_Plan_isFull mv_Plan_isFull lm_RX11_238 ⟨rfl, rfl, by decide, by decide⟩ (by decide)) (kZf_1 (tgt := 76) dX11_planTake_63 (by decide))) kSt_throw kSt_skip)
  (kSt_ret (tag := 0) (kE_call (kEs_snoc (kEs_snoc kEs_nil (kE_get (kE_aload_n dX11_planTake_76) lf_RX11_85 dX11_planTake_77)) (kE_iload_n dX11_planTake_80)) dX11_planTake_81 c_Plan_addTake mv_Plan_addTake lm_RX11_260 ⟨rfl, rfl, by decide, by decide⟩ (by decide)) ⟨fun _ => dX11_planTake_84, fun q => (by cases q), fun q => (by cases q)⟩))))
def sw_KP_later (z : Int) : kSx := if z = 0 then (sRet 0 (eGet 2 0 (eCall 4 F_Plan_behind (eSnoc (eSnoc eNil (eGet 11 9 (eR 0))) (eI 1))))) else
  if z = 1 then (sRet 0 (eGet 2 1 (eCall 4 F_Plan_behind (eSnoc (eSnoc eNil (eGet 11 9 (eR 0))) (eI 1))))) else
  if z = 2 then (sRet 0 (eGet 2 2 (eCall 4 F_Plan_behind (eSnoc (eSnoc eNil (eGet 11 9 (eR 0))) (eI 1))))) else
  if z = 3 then (sRet 0 (eCall 4 F_Plan_arcsBehind (eSnoc (eSnoc eNil (eGet 11 9 (eR 0))) (eI 1)))) else
  (sThrow 101)
def s_KP_later : kSx :=
  (sSeq (sIf (cOr (cZ 2 (eI 1)) (cC 4 (eI 1) (eGet 4 0 (eGet 11 9 (eR 0))))) (sThrow 15) sSkip)
  (sSwitch (eI 2) sw_KP_later))
abbrev M_KP_later : kM := (cX11_later, yX11_later.cls, 3, { frames := 4, cells := 0, slots := 0, locals := 93 }, (some .int))
set_option maxRecDepth 20000 in
theorem b_KP_later : kSt M_KP_later 0 0 0 0 s_KP_later :=
  (kSt_seq (kSt_if (kCd_or (kCd_Z (kE_iload_n dX11_later_0) (kZt_2 (tgt := 15) dX11_later_1 (by decide))) (kCd_C (kE_iload_n dX11_later_4) (kE_get (kE_get (kE_aload_n dX11_later_5) lf_RX11_85 dX11_later_6) lf_RX11_263 dX11_later_9) (kJf_4 (tgt := 26) dX11_later_12 (by decide)))) kSt_throw kSt_skip)
  (kSt_tsw (f := sw_KP_later) (kE_iload_n dX11_later_26) dX11_later_27 (fun z => by
    unfold sw_KP_later
    by_cases h0 : z = 0
    · subst h0; exact ⟨56, Or.inr ⟨by decide, by decide, 29, rfl, by decide⟩, by
      first | (simp only [reduceIte, Int.reduceEq]; exact (kSt_ret (tag := 0) (kE_get (kE_call (kEs_snoc (kEs_snoc kEs_nil (kE_get (kE_aload_n dX11_later_56) lf_RX11_85 dX11_later_57)) (kE_iload_n dX11_later_60)) dX11_later_61 c_Plan_behind mv_Plan_behind lm_RX11_268 ⟨rfl, rfl, by decide, by decide⟩ (by decide)) lf_RX11_272 dX11_later_64) ⟨fun _ => dX11_later_67, fun q => (by cases q), fun q => (by cases q)⟩)) | (simp; exact (kSt_ret (tag := 0) (kE_get (kE_call (kEs_snoc (kEs_snoc kEs_nil (kE_get (kE_aload_n dX11_later_56) lf_RX11_85 dX11_later_57)) (kE_iload_n dX11_later_60)) dX11_later_61 c_Plan_behind mv_Plan_behind lm_RX11_268 ⟨rfl, rfl, by decide, by decide⟩ (by decide)) lf_RX11_272 dX11_later_64) ⟨fun _ => dX11_later_67, fun q => (by cases q), fun q => (by cases q)⟩))⟩
    by_cases h1 : z = 1
    · subst h1; exact ⟨68, Or.inr ⟨by decide, by decide, 41, rfl, by decide⟩, by
      first | (simp only [reduceIte, Int.reduceEq]; exact (kSt_ret (tag := 0) (kE_get (kE_call (kEs_snoc (kEs_snoc kEs_nil (kE_get (kE_aload_n dX11_later_68) lf_RX11_85 dX11_later_69)) (kE_iload_n dX11_later_72)) dX11_later_73 c_Plan_behind mv_Plan_behind lm_RX11_268 ⟨rfl, rfl, by decide, by decide⟩ (by decide)) lf_RX11_274 dX11_later_76) ⟨fun _ => dX11_later_79, fun q => (by cases q), fun q => (by cases q)⟩)) | (simp; exact (kSt_ret (tag := 0) (kE_get (kE_call (kEs_snoc (kEs_snoc kEs_nil (kE_get (kE_aload_n dX11_later_68) lf_RX11_85 dX11_later_69)) (kE_iload_n dX11_later_72)) dX11_later_73 c_Plan_behind mv_Plan_behind lm_RX11_268 ⟨rfl, rfl, by decide, by decide⟩ (by decide)) lf_RX11_274 dX11_later_76) ⟨fun _ => dX11_later_79, fun q => (by cases q), fun q => (by cases q)⟩))⟩
    by_cases h2 : z = 2
    · subst h2; exact ⟨80, Or.inr ⟨by decide, by decide, 53, rfl, by decide⟩, by
      first | (simp only [reduceIte, Int.reduceEq]; exact (kSt_ret (tag := 0) (kE_get (kE_call (kEs_snoc (kEs_snoc kEs_nil (kE_get (kE_aload_n dX11_later_80) lf_RX11_85 dX11_later_81)) (kE_iload_n dX11_later_84)) dX11_later_85 c_Plan_behind mv_Plan_behind lm_RX11_268 ⟨rfl, rfl, by decide, by decide⟩ (by decide)) lf_RX11_277 dX11_later_88) ⟨fun _ => dX11_later_91, fun q => (by cases q), fun q => (by cases q)⟩)) | (simp; exact (kSt_ret (tag := 0) (kE_get (kE_call (kEs_snoc (kEs_snoc kEs_nil (kE_get (kE_aload_n dX11_later_80) lf_RX11_85 dX11_later_81)) (kE_iload_n dX11_later_84)) dX11_later_85 c_Plan_behind mv_Plan_behind lm_RX11_268 ⟨rfl, rfl, by decide, by decide⟩ (by decide)) lf_RX11_277 dX11_later_88) ⟨fun _ => dX11_later_91, fun q => (by cases q), fun q => (by cases q)⟩))⟩
    by_cases h3 : z = 3
    · subst h3; exact ⟨92, Or.inr ⟨by decide, by decide, 65, rfl, by decide⟩, by
      first | (simp only [reduceIte, Int.reduceEq]; exact (kSt_ret (tag := 0) (kE_call (kEs_snoc (kEs_snoc kEs_nil (kE_get (kE_aload_n dX11_later_92) lf_RX11_85 dX11_later_93)) (kE_iload_n dX11_later_96)) dX11_later_97 c_Plan_arcsBehind mv_Plan_arcsBehind lm_RX11_280 ⟨rfl, rfl, by decide, by decide⟩ (by decide)) ⟨fun _ => dX11_later_100, fun q => (by cases q), fun q => (by cases q)⟩)) | (simp; exact (kSt_ret (tag := 0) (kE_call (kEs_snoc (kEs_snoc kEs_nil (kE_get (kE_aload_n dX11_later_92) lf_RX11_85 dX11_later_93)) (kE_iload_n dX11_later_96)) dX11_later_97 c_Plan_arcsBehind mv_Plan_arcsBehind lm_RX11_280 ⟨rfl, rfl, by decide, by decide⟩ (by decide)) ⟨fun _ => dX11_later_100, fun q => (by cases q), fun q => (by cases q)⟩))⟩
    refine ⟨101, Or.inl ⟨by omega, by decide⟩, ?_⟩
    simp only [h0, h1, h2, h3]; exact kSt_throw)))
def s_KP_laterJoined : kSx :=
  (sSeq (sIf (cOr (cOr (cOr (cZ 2 (eI 1)) (cC 4 (eI 1) (eGet 4 0 (eGet 11 9 (eR 0))))) (cNot (cZ 1 (eCall 10 F_Web_hasNode (eSnoc (eSnoc eNil (eGet 11 1 (eR 0))) (eI 2)))))) (cNot (cZ 1 (eCall 10 F_Web_hasNode (eSnoc (eSnoc eNil (eGet 11 1 (eR 0))) (eI 3)))))) (sThrow 37) sSkip)
  (sRet 0 (eCall 2 F_Joiner_together (eSnoc (eSnoc (eSnoc eNil (eCall 4 F_Plan_behind (eSnoc (eSnoc eNil (eGet 11 9 (eR 0))) (eI 1)))) (eI 2)) (eI 3)))))
abbrev M_KP_laterJoined : kM := (cX11_laterJoined, yX11_laterJoined.cls, 4, { frames := 4, cells := 0, slots := 0, locals := 93 }, (some .boolean))
set_option maxRecDepth 20000 in
theorem b_KP_laterJoined : kSt M_KP_laterJoined 0 0 0 0 s_KP_laterJoined :=
  (kSt_seq (kSt_if (kCd_or (kCd_or (kCd_or (kCd_Z (kE_iload_n dX11_laterJoined_0) (kZt_2 (tgt := 37) dX11_laterJoined_1 (by decide))) (kCd_C (kE_iload_n dX11_laterJoined_4) (kE_get (kE_get (kE_aload_n dX11_laterJoined_5) lf_RX11_85 dX11_laterJoined_6) lf_RX11_263 dX11_laterJoined_9) (kJt_4 (tgt := 37) dX11_laterJoined_12 (by decide)))) (kCd_not (kCd_Z (kE_call (kEs_snoc (kEs_snoc kEs_nil (kE_get (kE_aload_n dX11_laterJoined_15) lf_RX11_16 dX11_laterJoined_16)) (kE_iload_n dX11_laterJoined_19)) dX11_laterJoined_20 c_Web_hasNode mv_Web_hasNode lm_RX11_129 ⟨rfl, rfl, by decide, by decide⟩ (by decide)) (kZf_1 (tgt := 37) dX11_laterJoined_23 (by decide))))) (kCd_not (kCd_Z (kE_call (kEs_snoc (kEs_snoc kEs_nil (kE_get (kE_aload_n dX11_laterJoined_26) lf_RX11_16 dX11_laterJoined_27)) (kE_iload_n dX11_laterJoined_30)) dX11_laterJoined_31 c_Web_hasNode mv_Web_hasNode lm_RX11_129 ⟨rfl, rfl, by decide, by decide⟩ (by decide)) (kZt_1 (tgt := 48) dX11_laterJoined_34 (by decide))))) kSt_throw kSt_skip)
  (kSt_ret (tag := 0) (kE_call (kEs_snoc (kEs_snoc (kEs_snoc kEs_nil (kE_call (kEs_snoc (kEs_snoc kEs_nil (kE_get (kE_aload_n dX11_laterJoined_48) lf_RX11_85 dX11_laterJoined_49)) (kE_iload_n dX11_laterJoined_52)) dX11_laterJoined_53 c_Plan_behind mv_Plan_behind lm_RX11_268 ⟨rfl, rfl, by decide, by decide⟩ (by decide))) (kE_iload_n dX11_laterJoined_56)) (kE_iload_n dX11_laterJoined_57)) dX11_laterJoined_58 c_Joiner_together mv_Joiner_together lm_RX11_285 ⟨rfl, rfl, by decide, by decide⟩ (by decide)) ⟨fun _ => dX11_laterJoined_61, fun q => (by cases q), fun q => (by cases q)⟩))
def s_KP_drop : kSx :=
  (sRet 0 (eCall 4 F_Plan_forget (eSnoc eNil (eGet 11 9 (eR 0)))))
abbrev M_KP_drop : kM := (cX11_drop, yX11_drop.cls, 1, { frames := 2, cells := 0, slots := 0, locals := 44 }, (some .int))
set_option maxRecDepth 20000 in
theorem b_KP_drop : kSt M_KP_drop 0 0 0 0 s_KP_drop :=
  (kSt_ret (tag := 0) (kE_call (kEs_snoc kEs_nil (kE_get (kE_aload_n dX11_drop_0) lf_RX11_85 dX11_drop_1)) dX11_drop_4 c_Plan_forget mv_Plan_forget lm_RX11_106 ⟨rfl, rfl, by decide, by decide⟩ (by decide)) ⟨fun _ => dX11_drop_7, fun q => (by cases q), fun q => (by cases q)⟩)
def F_KP_drop : kFn := kF 1 kI s_KP_drop
theorem c_KP_drop : kCon yX11_drop cX11_drop 1 (some .int) { frames := 2, cells := 0, slots := 0, locals := 44 } F_KP_drop := kCon_of kEnds_I (by decide +kernel) (by decide) ⟨0, 0, 0, b_KP_drop⟩
def sw_KP_told (z : Int) : kSx := if z = 0 then (sRet 0 (eGet 10 3 (eGet 11 1 (eR 0)))) else
  if z = 1 then (sRet 0 (eGet 10 4 (eGet 11 1 (eR 0)))) else
  if z = 2 then (sRet 0 (eCall 8 F_Trees_parts (eSnoc eNil (eGet 11 2 (eR 0))))) else
  if z = 3 then (sRet 0 (eCall 3 F_OddArcs_evenParts (eSnoc eNil (eGet 11 3 (eR 0))))) else
  if z = 4 then (sRet 0 (eCall 9 F_Twice_bridges (eSnoc eNil (eGet 11 4 (eR 0))))) else
  if z = 5 then (sRet 0 (eCall 7 F_Strong_parts (eSnoc eNil (eGet 11 6 (eR 0))))) else
  if z = 6 then (sRet 0 (eCall 5 F_Row_looseArcs (eSnoc eNil (eGet 11 5 (eR 0))))) else
  if z = 7 then (sRet 0 (eCall 0 F_Chosen_size (eSnoc eNil (eGet 11 8 (eR 0))))) else
  if z = 8 then (sRet 0 (eCall 6 F_Sides_greatestCore (eSnoc eNil (eGet 11 7 (eR 0))))) else
  if z = 9 then (sRet 0 (eCall 8 F_Trees_greatestLevel (eSnoc eNil (eGet 11 2 (eR 0))))) else
  if z = 10 then (sRet 0 (eCall 8 F_Trees_treeArcs (eSnoc eNil (eGet 11 2 (eR 0))))) else
  if z = 11 then (sRet 0 (eGet 4 0 (eGet 11 9 (eR 0)))) else
  if z = 12 then (sRet 0 (eGet 11 12 (eR 0))) else
  (sThrow 169)
def s_KP_told : kSx :=
  (sSwitch (eI 1) sw_KP_told)
abbrev M_KP_told : kM := (cX11_told, yX11_told.cls, 2, { frames := 6, cells := 0, slots := 0, locals := 138 }, (some .int))
set_option maxRecDepth 20000 in
theorem b_KP_told : kSt M_KP_told 0 0 0 0 s_KP_told :=
  (kSt_tsw (f := sw_KP_told) (kE_iload_n dX11_told_0) dX11_told_1 (fun z => by
    unfold sw_KP_told
    by_cases h0 : z = 0
    · subst h0; exact ⟨68, Or.inr ⟨by decide, by decide, 67, rfl, by decide⟩, by
      first | (simp only [reduceIte, Int.reduceEq]; exact (kSt_ret (tag := 0) (kE_get (kE_get (kE_aload_n dX11_told_68) lf_RX11_16 dX11_told_69) lf_RX11_96 dX11_told_72) ⟨fun _ => dX11_told_75, fun q => (by cases q), fun q => (by cases q)⟩)) | (simp; exact (kSt_ret (tag := 0) (kE_get (kE_get (kE_aload_n dX11_told_68) lf_RX11_16 dX11_told_69) lf_RX11_96 dX11_told_72) ⟨fun _ => dX11_told_75, fun q => (by cases q), fun q => (by cases q)⟩))⟩
    by_cases h1 : z = 1
    · subst h1; exact ⟨76, Or.inr ⟨by decide, by decide, 75, rfl, by decide⟩, by
      first | (simp only [reduceIte, Int.reduceEq]; exact (kSt_ret (tag := 0) (kE_get (kE_get (kE_aload_n dX11_told_76) lf_RX11_16 dX11_told_77) lf_RX11_286 dX11_told_80) ⟨fun _ => dX11_told_83, fun q => (by cases q), fun q => (by cases q)⟩)) | (simp; exact (kSt_ret (tag := 0) (kE_get (kE_get (kE_aload_n dX11_told_76) lf_RX11_16 dX11_told_77) lf_RX11_286 dX11_told_80) ⟨fun _ => dX11_told_83, fun q => (by cases q), fun q => (by cases q)⟩))⟩
    by_cases h2 : z = 2
    · subst h2; exact ⟨84, Or.inr ⟨by decide, by decide, 83, rfl, by decide⟩, by
      first | (simp only [reduceIte, Int.reduceEq]; exact (kSt_ret (tag := 0) (kE_call (kEs_snoc kEs_nil (kE_get (kE_aload_n dX11_told_84) lf_RX11_25 dX11_told_85)) dX11_told_88 c_Trees_parts mv_Trees_parts lm_RX11_167 ⟨rfl, rfl, by decide, by decide⟩ (by decide)) ⟨fun _ => dX11_told_91, fun q => (by cases q), fun q => (by cases q)⟩)) | (simp; exact (kSt_ret (tag := 0) (kE_call (kEs_snoc kEs_nil (kE_get (kE_aload_n dX11_told_84) lf_RX11_25 dX11_told_85)) dX11_told_88 c_Trees_parts mv_Trees_parts lm_RX11_167 ⟨rfl, rfl, by decide, by decide⟩ (by decide)) ⟨fun _ => dX11_told_91, fun q => (by cases q), fun q => (by cases q)⟩))⟩
    by_cases h3 : z = 3
    · subst h3; exact ⟨92, Or.inr ⟨by decide, by decide, 91, rfl, by decide⟩, by
      first | (simp only [reduceIte, Int.reduceEq]; exact (kSt_ret (tag := 0) (kE_call (kEs_snoc kEs_nil (kE_get (kE_aload_n dX11_told_92) lf_RX11_34 dX11_told_93)) dX11_told_96 c_OddArcs_evenParts mv_OddArcs_evenParts lm_RX11_289 ⟨rfl, rfl, by decide, by decide⟩ (by decide)) ⟨fun _ => dX11_told_99, fun q => (by cases q), fun q => (by cases q)⟩)) | (simp; exact (kSt_ret (tag := 0) (kE_call (kEs_snoc kEs_nil (kE_get (kE_aload_n dX11_told_92) lf_RX11_34 dX11_told_93)) dX11_told_96 c_OddArcs_evenParts mv_OddArcs_evenParts lm_RX11_289 ⟨rfl, rfl, by decide, by decide⟩ (by decide)) ⟨fun _ => dX11_told_99, fun q => (by cases q), fun q => (by cases q)⟩))⟩
    by_cases h4 : z = 4
    · subst h4; exact ⟨100, Or.inr ⟨by decide, by decide, 99, rfl, by decide⟩, by
      first | (simp only [reduceIte, Int.reduceEq]; exact (kSt_ret (tag := 0) (kE_call (kEs_snoc kEs_nil (kE_get (kE_aload_n dX11_told_100) lf_RX11_41 dX11_told_101)) dX11_told_104 c_Twice_bridges mv_Twice_bridges lm_RX11_291 ⟨rfl, rfl, by decide, by decide⟩ (by decide)) ⟨fun _ => dX11_told_107, fun q => (by cases q), fun q => (by cases q)⟩)) | (simp; exact (kSt_ret (tag := 0) (kE_call (kEs_snoc kEs_nil (kE_get (kE_aload_n dX11_told_100) lf_RX11_41 dX11_told_101)) dX11_told_104 c_Twice_bridges mv_Twice_bridges lm_RX11_291 ⟨rfl, rfl, by decide, by decide⟩ (by decide)) ⟨fun _ => dX11_told_107, fun q => (by cases q), fun q => (by cases q)⟩))⟩
    by_cases h5 : z = 5
    · subst h5; exact ⟨108, Or.inr ⟨by decide, by decide, 107, rfl, by decide⟩, by
      first | (simp only [reduceIte, Int.reduceEq]; exact (kSt_ret (tag := 0) (kE_call (kEs_snoc kEs_nil (kE_get (kE_aload_n dX11_told_108) lf_RX11_55 dX11_told_109)) dX11_told_112 c_Strong_parts mv_Strong_parts lm_RX11_294 ⟨rfl, rfl, by decide, by decide⟩ (by decide)) ⟨fun _ => dX11_told_115, fun q => (by cases q), fun q => (by cases q)⟩)) | (simp; exact (kSt_ret (tag := 0) (kE_call (kEs_snoc kEs_nil (kE_get (kE_aload_n dX11_told_108) lf_RX11_55 dX11_told_109)) dX11_told_112 c_Strong_parts mv_Strong_parts lm_RX11_294 ⟨rfl, rfl, by decide, by decide⟩ (by decide)) ⟨fun _ => dX11_told_115, fun q => (by cases q), fun q => (by cases q)⟩))⟩
    by_cases h6 : z = 6
    · subst h6; exact ⟨116, Or.inr ⟨by decide, by decide, 115, rfl, by decide⟩, by
      first | (simp only [reduceIte, Int.reduceEq]; exact (kSt_ret (tag := 0) (kE_call (kEs_snoc kEs_nil (kE_get (kE_aload_n dX11_told_116) lf_RX11_48 dX11_told_117)) dX11_told_120 c_Row_looseArcs mv_Row_looseArcs lm_RX11_295 ⟨rfl, rfl, by decide, by decide⟩ (by decide)) ⟨fun _ => dX11_told_123, fun q => (by cases q), fun q => (by cases q)⟩)) | (simp; exact (kSt_ret (tag := 0) (kE_call (kEs_snoc kEs_nil (kE_get (kE_aload_n dX11_told_116) lf_RX11_48 dX11_told_117)) dX11_told_120 c_Row_looseArcs mv_Row_looseArcs lm_RX11_295 ⟨rfl, rfl, by decide, by decide⟩ (by decide)) ⟨fun _ => dX11_told_123, fun q => (by cases q), fun q => (by cases q)⟩))⟩
    by_cases h7 : z = 7
    · subst h7; exact ⟨124, Or.inr ⟨by decide, by decide, 123, rfl, by decide⟩, by
      first | (simp only [reduceIte, Int.reduceEq]; exact (kSt_ret (tag := 0) (kE_call (kEs_snoc kEs_nil (kE_get (kE_aload_n dX11_told_124) lf_RX11_69 dX11_told_125)) dX11_told_128 c_Chosen_size mv_Chosen_size lm_RX11_298 ⟨rfl, rfl, by decide, by decide⟩ (by decide)) ⟨fun _ => dX11_told_131, fun q => (by cases q), fun q => (by cases q)⟩)) | (simp; exact (kSt_ret (tag := 0) (kE_call (kEs_snoc kEs_nil (kE_get (kE_aload_n dX11_told_124) lf_RX11_69 dX11_told_125)) dX11_told_128 c_Chosen_size mv_Chosen_size lm_RX11_298 ⟨rfl, rfl, by decide, by decide⟩ (by decide)) ⟨fun _ => dX11_told_131, fun q => (by cases q), fun q => (by cases q)⟩))⟩
    by_cases h8 : z = 8
    · subst h8; exact ⟨132, Or.inr ⟨by decide, by decide, 131, rfl, by decide⟩, by
      first | (simp only [reduceIte, Int.reduceEq]; exact (kSt_ret (tag := 0) (kE_call (kEs_snoc kEs_nil (kE_get (kE_aload_n dX11_told_132) lf_RX11_62 dX11_told_133)) dX11_told_136 c_Sides_greatestCore mv_Sides_greatestCore lm_RX11_301 ⟨rfl, rfl, by decide, by decide⟩ (by decide)) ⟨fun _ => dX11_told_139, fun q => (by cases q), fun q => (by cases q)⟩)) | (simp; exact (kSt_ret (tag := 0) (kE_call (kEs_snoc kEs_nil (kE_get (kE_aload_n dX11_told_132) lf_RX11_62 dX11_told_133)) dX11_told_136 c_Sides_greatestCore mv_Sides_greatestCore lm_RX11_301 ⟨rfl, rfl, by decide, by decide⟩ (by decide)) ⟨fun _ => dX11_told_139, fun q => (by cases q), fun q => (by cases q)⟩))⟩
    by_cases h9 : z = 9
    · subst h9; exact ⟨140, Or.inr ⟨by decide, by decide, 139, rfl, by decide⟩, by
      first | (simp only [reduceIte, Int.reduceEq]; exact (kSt_ret (tag := 0) (kE_call (kEs_snoc kEs_nil (kE_get (kE_aload_n dX11_told_140) lf_RX11_25 dX11_told_141)) dX11_told_144 c_Trees_greatestLevel mv_Trees_greatestLevel lm_RX11_304 ⟨rfl, rfl, by decide, by decide⟩ (by decide)) ⟨fun _ => dX11_told_147, fun q => (by cases q), fun q => (by cases q)⟩)) | (simp; exact (kSt_ret (tag := 0) (kE_call (kEs_snoc kEs_nil (kE_get (kE_aload_n dX11_told_140) lf_RX11_25 dX11_told_141)) dX11_told_144 c_Trees_greatestLevel mv_Trees_greatestLevel lm_RX11_304 ⟨rfl, rfl, by decide, by decide⟩ (by decide)) ⟨fun _ => dX11_told_147, fun q => (by cases q), fun q => (by cases q)⟩))⟩
    by_cases h10 : z = 10
    · subst h10; exact ⟨148, Or.inr ⟨by decide, by decide, 147, rfl, by decide⟩, by
      first | (simp only [reduceIte, Int.reduceEq]; exact (kSt_ret (tag := 0) (kE_call (kEs_snoc kEs_nil (kE_get (kE_aload_n dX11_told_148) lf_RX11_25 dX11_told_149)) dX11_told_152 c_Trees_treeArcs mv_Trees_treeArcs lm_RX11_307 ⟨rfl, rfl, by decide, by decide⟩ (by decide)) ⟨fun _ => dX11_told_155, fun q => (by cases q), fun q => (by cases q)⟩)) | (simp; exact (kSt_ret (tag := 0) (kE_call (kEs_snoc kEs_nil (kE_get (kE_aload_n dX11_told_148) lf_RX11_25 dX11_told_149)) dX11_told_152 c_Trees_treeArcs mv_Trees_treeArcs lm_RX11_307 ⟨rfl, rfl, by decide, by decide⟩ (by decide)) ⟨fun _ => dX11_told_155, fun q => (by cases q), fun q => (by cases q)⟩))⟩
    by_cases h11 : z = 11
    · subst h11; exact ⟨156, Or.inr ⟨by decide, by decide, 155, rfl, by decide⟩, by
      first | (simp only [reduceIte, Int.reduceEq]; exact (kSt_ret (tag := 0) (kE_get (kE_get (kE_aload_n dX11_told_156) lf_RX11_85 dX11_told_157) lf_RX11_263 dX11_told_160) ⟨fun _ => dX11_told_163, fun q => (by cases q), fun q => (by cases q)⟩)) | (simp; exact (kSt_ret (tag := 0) (kE_get (kE_get (kE_aload_n dX11_told_156) lf_RX11_85 dX11_told_157) lf_RX11_263 dX11_told_160) ⟨fun _ => dX11_told_163, fun q => (by cases q), fun q => (by cases q)⟩))⟩
    by_cases h12 : z = 12
    · subst h12; exact ⟨164, Or.inr ⟨by decide, by decide, 163, rfl, by decide⟩, by
      first | (simp only [reduceIte, Int.reduceEq]; exact (kSt_ret (tag := 0) (kE_get (kE_aload_n dX11_told_164) lf_RX11_92 dX11_told_165) ⟨fun _ => dX11_told_168, fun q => (by cases q), fun q => (by cases q)⟩)) | (simp; exact (kSt_ret (tag := 0) (kE_get (kE_aload_n dX11_told_164) lf_RX11_92 dX11_told_165) ⟨fun _ => dX11_told_168, fun q => (by cases q), fun q => (by cases q)⟩))⟩
    refine ⟨169, Or.inl ⟨by omega, by decide⟩, ?_⟩
    simp only [h0, h1, h2, h3, h4, h5, h6, h7, h8, h9, h10, h11, h12]; exact kSt_throw))
def s_KP_sound : kSx :=
  (sRet 0 (eIf (cAnd (cAnd (cAnd (cAnd (cZ 1 (eCall 8 F_Trees_spanJust (eSnoc (eSnoc eNil (eGet 11 2 (eR 0))) (eGet 11 10 (eR 0))))) (cZ 1 (eCall 8 F_Trees_levelsHold (eSnoc (eSnoc eNil (eGet 11 2 (eR 0))) (eGet 11 10 (eR 0)))))) (cZ 1 (eCall 5 F_Row_holds (eSnoc eNil (eGet 11 5 (eR 0)))))) (cZ 1 (eCall 6 F_Sides_holds (eSnoc (eSnoc eNil (eGet 11 7 (eR 0))) (eGet 11 11 (eR 0)))))) (cZ 1 (eCall 0 F_Chosen_holds (eSnoc eNil (eGet 11 8 (eR 0)))))) (eK (1)) (eK (0))))
abbrev M_KP_sound : kM := (cX11_sound, yX11_sound.cls, 1, { frames := 5, cells := 0, slots := 0, locals := 118 }, (some .boolean))
set_option maxRecDepth 20000 in
theorem b_KP_sound : kSt M_KP_sound 0 0 0 0 s_KP_sound :=
  (kSt_ret (tag := 0) (kE_if (kCd_and (kCd_and (kCd_and (kCd_and (kCd_Z (kE_call (kEs_snoc (kEs_snoc kEs_nil (kE_get (kE_aload_n dX11_sound_0) lf_RX11_25 dX11_sound_1)) (kE_get (kE_aload_n dX11_sound_4) lf_RX11_76 dX11_sound_5)) dX11_sound_8 c_Trees_spanJust mv_Trees_spanJust lm_RX11_310 ⟨rfl, rfl, by decide, by decide⟩ (by decide)) (kZf_1 (tgt := 66) dX11_sound_11 (by decide))) (kCd_Z (kE_call (kEs_snoc (kEs_snoc kEs_nil (kE_get (kE_aload_n dX11_sound_14) lf_RX11_25 dX11_sound_15)) (kE_get (kE_aload_n dX11_sound_18) lf_RX11_76 dX11_sound_19)) dX11_sound_22 c_Trees_levelsHold mv_Trees_levelsHold lm_RX11_314 ⟨rfl, rfl, by decide, by decide⟩ (by decide)) (kZf_1 (tgt := 66) dX11_sound_25 (by decide)))) (kCd_Z (kE_call (kEs_snoc kEs_nil (kE_get (kE_aload_n dX11_sound_28) lf_RX11_48 dX11_sound_29)) dX11_sound_32 c_Row_holds mv_Row_holds lm_RX11_317 ⟨rfl, rfl, by decide, by decide⟩ (by decide)) (kZf_1 (tgt := 66) dX11_sound_35 (by decide)))) (kCd_Z (kE_call (kEs_snoc (kEs_snoc kEs_nil (kE_get (kE_aload_n dX11_sound_38) lf_RX11_62 dX11_sound_39)) (kE_get (kE_aload_n dX11_sound_42) lf_RX11_89 dX11_sound_43)) dX11_sound_46 c_Sides_holds mv_Sides_holds lm_RX11_320 ⟨rfl, rfl, by decide, by decide⟩ (by decide)) (kZf_1 (tgt := 66) dX11_sound_49 (by decide)))) (kCd_Z (kE_call (kEs_snoc kEs_nil (kE_get (kE_aload_n dX11_sound_52) lf_RX11_69 dX11_sound_53)) dX11_sound_56 c_Chosen_holds mv_Chosen_holds lm_RX11_323 ⟨rfl, rfl, by decide, by decide⟩ (by decide)) (kZf_1 (tgt := 66) dX11_sound_59 (by decide)))) (kE_goto (tgt := 67) (kE_iconst dX11_sound_62 ⟨by decide, by decide⟩) dX11_sound_63 (by decide)) (kE_iconst dX11_sound_66 ⟨by decide, by decide⟩)) ⟨fun _ => dX11_sound_67, fun q => (by cases q), fun q => (by cases q)⟩)
def F_KP_sound : kFn := kF 1 kZ s_KP_sound
theorem c_KP_sound : kCon yX11_sound cX11_sound 1 (some .boolean) { frames := 5, cells := 0, slots := 0, locals := 118 } F_KP_sound := kCon_of kEnds_Z (by decide +kernel) (by decide) ⟨0, 0, 0, b_KP_sound⟩
def s_KP_clear : kSx :=
  (sSeq (sSeq (sE (eCall 4 F_Plan_forget (eSnoc eNil (eGet 11 9 (eR 0)))))
  (sSeq (sCall 10 F_Web_empty (eSnoc eNil (eGet 11 1 (eR 0))))
  (sSeq (sCall 5 F_Row_empty (eSnoc eNil (eGet 11 5 (eR 0))))
  (sPut 11 12 (eR 0) (eK (0)))))) sRetV)
abbrev M_KP_clear : kM := (cX11_clear, yX11_clear.cls, 1, { frames := 2, cells := 0, slots := 0, locals := 44 }, none)
set_option maxRecDepth 20000 in
theorem b_KP_clear : kSt M_KP_clear 0 0 0 0 s_KP_clear :=
  (kSt_seq (kSt_seq (kSt_E (kE_call (kEs_snoc kEs_nil (kE_get (kE_aload_n dX11_clear_0) lf_RX11_85 dX11_clear_1)) dX11_clear_4 c_Plan_forget mv_Plan_forget lm_RX11_106 ⟨rfl, rfl, by decide, by decide⟩ (by decide)) dX11_clear_7)
  (kSt_seq (kSt_call (kEs_snoc kEs_nil (kE_get (kE_aload_n dX11_clear_8) lf_RX11_16 dX11_clear_9)) dX11_clear_12 c_Web_empty mv_Web_empty lm_RX11_324 ⟨rfl, rfl, by decide, by decide⟩)
  (kSt_seq (kSt_call (kEs_snoc kEs_nil (kE_get (kE_aload_n dX11_clear_15) lf_RX11_48 dX11_clear_16)) dX11_clear_19 c_Row_empty mv_Row_empty lm_RX11_327 ⟨rfl, rfl, by decide, by decide⟩)
  (kSt_put (kE_aload_n dX11_clear_22) (kE_iconst dX11_clear_23 ⟨by decide, by decide⟩) lp_RX11_92 dX11_clear_24)))) (kSt_retV dX11_clear_27))
def F_KP_clear : kFn := kF 1 kN s_KP_clear
theorem c_KP_clear : kCon yX11_clear cX11_clear 1 none { frames := 2, cells := 0, slots := 0, locals := 44 } F_KP_clear := kCon_of kEnds_V (by decide +kernel) (by decide) ⟨0, 0, 0, b_KP_clear⟩
