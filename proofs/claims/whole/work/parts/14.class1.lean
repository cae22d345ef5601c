noncomputable def l_Trees_gather_1 : kSx := sFor 9 (cC 2 (eI 8) (eI 7))
  (sTrunc 9 (sSeq (sLet 0 9 (eCall 10 F_Web_arcAt (eSnoc (eSnoc (eSnoc eNil (eGet 8 6 (eR 0))) (eI 6)) (eI 8))))
  (sSeq (sLet 0 10 (eCall 10 F_Web_other (eSnoc (eSnoc (eSnoc eNil (eGet 8 6 (eR 0))) (eI 9)) (eI 6))))
  (sIf (cAnd (cAnd (cZ 1 (eAld 1 (eGet 8 1 (eR 0)) (eI 9))) (cC 3 (eAld 0 (eGet 8 0 (eR 0)) (eI 9)) (eI 2))) (cC 1 (eAld 0 (eGet 8 8 (eR 0)) (eI 10)) (eI 3))) (sSeq (sAst 0 (eGet 8 8 (eR 0)) (eI 10) (eI 3))
  (sSeq (sAst 0 (eGet 8 7 (eR 0)) (eI 4) (eI 10))
  (sInc 4 (1)))) sSkip))))
  (sInc 8 (1))
noncomputable def l_Trees_gather_2 : kSx := sFor 6 (cAnd (cC 2 (eI 5) (eK (300))) (cC 2 (eI 5) (eI 4)))
  (sTrunc 6 (sSeq (sLet 0 6 (eAld 0 (eGet 8 7 (eR 0)) (eI 5)))
  (sSeq (sLet 0 7 (eCall 10 F_Web_degree (eSnoc (eSnoc eNil (eGet 8 6 (eR 0))) (eI 6))))
  (sTrunc 8 (sSeq (sLet 0 8 (eK (0))) l_Trees_gather_1)))))
  (sInc 5 (1))
noncomputable def s_Trees_gather : kSx :=
  (sSeq (sAst 0 (eGet 8 8 (eR 0)) (eI 1) (eI 3))
  (sSeq (sAst 0 (eGet 8 7 (eR 0)) (eK (0)) (eI 1))
  (sSeq (sLet 0 4 (eK (1)))
  (sSeq (sTrunc 5 (sSeq (sLet 0 5 (eK (0))) l_Trees_gather_2))
  (sRet 0 (eI 4))))))
abbrev M_Trees_gather : kM := (cX8_gather, yX8_gather.cls, 11, { frames := 1, cells := 0, slots := 0, locals := 23 }, (some .int))
set_option maxRecDepth 20000 in
theorem b_Trees_gather : kSt M_Trees_gather 0 0 0 0 s_Trees_gather :=
  (kSt_seq (p1 := 7) (kSt_iast (kE_get (kE_aload_0 dX8_gather_0) lf_RX8_34 dX8_gather_1) (kE_iload_1 dX8_gather_4) (kE_iload_3 dX8_gather_5) dX8_gather_6)
  (kSt_seq (p1 := 14) (kSt_iast (kE_get (kE_aload_0 dX8_gather_7) lf_RX8_31 dX8_gather_8) (kE_ic_0 dX8_gather_11) (kE_iload_1 dX8_gather_12) dX8_gather_13)
  (kSt_seq (p1 := 17) (kSt_let (kE_ic_1 dX8_gather_14) (kSet_istore dX8_gather_15 (by decide)))
  (kSt_seq (p1 := 155) (kSt_trunc (kSt_seq (kSt_let (kE_ic_0 dX8_gather_17) (kSet_istore dX8_gather_18 (by decide))) (kSt_for (pu := 149) (pt := 35) (kCd_and (kCd_C (kE_iload dX8_gather_20) (kE_sipush dX8_gather_22 (by rfl) ⟨by decide, by decide⟩) (kJf_2 (tgt := 155) dX8_gather_25 (by decide))) (kCd_C (kE_iload dX8_gather_28) (kE_iload dX8_gather_30) (kJf_2 (tgt := 155) dX8_gather_32 (by decide)))) (kSt_trunc (kSt_seq (p1 := 44) (kSt_let (kE_iald (kE_get (kE_aload_0 dX8_gather_35) lf_RX8_31 dX8_gather_36) (kE_iload dX8_gather_39) dX8_gather_41) (kSet_istore dX8_gather_42 (by decide)))
  (kSt_seq (p1 := 55) (kSt_let (kE_call (kEs_snoc (kEs_snoc kEs_nil (kE_get (kE_aload_0 dX8_gather_44) lf_RX8_37 dX8_gather_45)) (kE_iload dX8_gather_48)) dX8_gather_50 c_Web_degree mv_Web_degree lm_RX8_120 ⟨rfl, rfl, by decide, by decide⟩ (by decide)) (kSet_istore dX8_gather_53 (by decide)))
  (kSt_trunc (kSt_seq (kSt_let (kE_ic_0 dX8_gather_55) (kSet_istore dX8_gather_56 (by decide))) (kSt_for (pu := 143) (pt := 65) (kCd_C (kE_iload dX8_gather_58) (kE_iload dX8_gather_60) (kJf_2 (tgt := 149) dX8_gather_62 (by decide))) (kSt_trunc (kSt_seq (p1 := 78) (kSt_let (kE_call (kEs_snoc (kEs_snoc (kEs_snoc kEs_nil (kE_get (kE_aload_0 dX8_gather_65) lf_RX8_37 dX8_gather_66)) (kE_iload dX8_gather_69)) (kE_iload dX8_gather_71)) dX8_gather_73 c_Web_arcAt mv_Web_arcAt lm_RX8_124 ⟨rfl, rfl, by decide, by decide⟩ (by decide)) (kSet_istore dX8_gather_76 (by decide)))
  (kSt_seq (p1 := 91) (kSt_let (kE_call (kEs_snoc (kEs_snoc (kEs_snoc kEs_nil (kE_get (kE_aload_0 dX8_gather_78) lf_RX8_37 dX8_gather_79)) (kE_iload dX8_gather_82)) (kE_iload dX8_gather_84)) dX8_gather_86 c_Web_other mv_Web_other lm_RX8_127 ⟨rfl, rfl, by decide, by decide⟩ (by decide)) (kSet_istore dX8_gather_89 (by decide)))
  (kSt_if (kCd_and (kCd_and (kCd_Z (kE_zald (kE_get (kE_aload_0 dX8_gather_91) lf_RX8_15 dX8_gather_92) (kE_iload dX8_gather_95) dX8_gather_97) (kZf_1 (tgt := 143) dX8_gather_98 (by decide))) (kCd_C (kE_iald (kE_get (kE_aload_0 dX8_gather_101) lf_RX8_9 dX8_gather_102) (kE_iload dX8_gather_105) dX8_gather_107) (kE_iload_2 dX8_gather_108) (kJf_3 (tgt := 143) dX8_gather_109 (by decide)))) (kCd_C (kE_iald (kE_get (kE_aload_0 dX8_gather_112) lf_RX8_34 dX8_gather_113) (kE_iload dX8_gather_116) dX8_gather_118) (kE_iload_3 dX8_gather_119) (kJf_1 (tgt := 143) dX8_gather_120 (by decide)))) (kSt_seq (p1 := 131) (kSt_iast (kE_get (kE_aload_0 dX8_gather_123) lf_RX8_34 dX8_gather_124) (kE_iload dX8_gather_127) (kE_iload_3 dX8_gather_129) dX8_gather_130)
  (kSt_seq (p1 := 140) (kSt_iast (kE_get (kE_aload_0 dX8_gather_131) lf_RX8_31 dX8_gather_132) (kE_iload dX8_gather_135) (kE_iload dX8_gather_137) dX8_gather_139)
  (kSt_inc dX8_gather_140 (by decide)))) kSt_skip)))) (kSt_goto (tgt := 58) (kSt_inc dX8_gather_143 (by decide)) dX8_gather_146 (by decide)))))))) (kSt_goto (tgt := 20) (kSt_inc dX8_gather_149 (by decide)) dX8_gather_152 (by decide)))))
  (kSt_ret (tag := 0) (kE_iload dX8_gather_155) ⟨fun _ => dX8_gather_157, fun q => (by cases q), fun q => (by cases q)⟩)))))
noncomputable def F_Trees_gather : kFn := kF 4 kI s_Trees_gather
theorem c_Trees_gather : kCon yX8_gather cX8_gather 11 (some .int) { frames := 1, cells := 0, slots := 0, locals := 23 } F_Trees_gather := kCon_of kEnds_I (by decide +kernel) (by decide) ⟨0, 0, 0, b_Trees_gather⟩
noncomputable def l_Trees_raiseTree_1 : kSx := sFor 4 (cC 2 (eI 3) (eGet 10 4 (eGet 8 6 (eR 0))))
  (sTrunc 4 (sSeq (sLet 0 4 (eAld 0 (eGet 10 2 (eGet 8 6 (eR 0))) (eI 3)))
  (sIf (cAnd (cAnd (cAnd (cZ 1 (eAld 1 (eGet 8 1 (eR 0)) (eI 4))) (cC 0 (eAld 0 (eGet 8 0 (eR 0)) (eI 4)) (eI 1))) (cC 0 (eAld 0 (eGet 8 8 (eR 0)) (eAld 0 (eGet 10 0 (eGet 8 6 (eR 0))) (eI 4))) (eI 2))) (cC 0 (eAld 0 (eGet 8 8 (eR 0)) (eAld 0 (eGet 10 1 (eGet 8 6 (eR 0))) (eI 4))) (eI 2))) (sAstOp (eGet 8 0 (eR 0)) (eI 4) kAdd (eK (1))) sSkip)))
  (sInc 3 (1))
noncomputable def s_Trees_raiseTree : kSx :=
  (sSeq (sTrunc 3 (sSeq (sLet 0 3 (eK (0))) l_Trees_raiseTree_1)) sRetV)
abbrev M_Trees_raiseTree : kM := (cX8_raiseTree, yX8_raiseTree.cls, 5, { frames := 0, cells := 0, slots := 0, locals := 0 }, none)
set_option maxRecDepth 20000 in
theorem b_Trees_raiseTree : kSt M_Trees_raiseTree 0 0 0 0 s_Trees_raiseTree :=
  (kSt_seq (kSt_trunc (kSt_seq (kSt_let (kE_ic_0 dX8_raiseTree_0) (kSet_istore_3 dX8_raiseTree_1 (by decide))) (kSt_for (pu := 94) (pt := 13) (kCd_C (kE_iload_3 dX8_raiseTree_2) (kE_get (kE_get (kE_aload_0 dX8_raiseTree_3) lf_RX8_37 dX8_raiseTree_4) lf_RX8_51 dX8_raiseTree_7) (kJf_2 (tgt := 100) dX8_raiseTree_10 (by decide))) (kSt_trunc (kSt_seq (p1 := 24) (kSt_let (kE_iald (kE_get (kE_get (kE_aload_0 dX8_raiseTree_13) lf_RX8_37 dX8_raiseTree_14) lf_RX8_54 dX8_raiseTree_17) (kE_iload_3 dX8_raiseTree_20) dX8_raiseTree_21) (kSet_istore dX8_raiseTree_22 (by decide)))
  (kSt_if (kCd_and (kCd_and (kCd_and (kCd_Z (kE_zald (kE_get (kE_aload_0 dX8_raiseTree_24) lf_RX8_15 dX8_raiseTree_25) (kE_iload dX8_raiseTree_28) dX8_raiseTree_30) (kZf_1 (tgt := 94) dX8_raiseTree_31 (by decide))) (kCd_C (kE_iald (kE_get (kE_aload_0 dX8_raiseTree_34) lf_RX8_9 dX8_raiseTree_35) (kE_iload dX8_raiseTree_38) dX8_raiseTree_40) (kE_iload_1 dX8_raiseTree_41) (kJf_0 (tgt := 94) dX8_raiseTree_42 (by decide)))) (kCd_C (kE_iald (kE_get (kE_aload_0 dX8_raiseTree_45) lf_RX8_34 dX8_raiseTree_46) (kE_iald (kE_get (kE_get (kE_aload_0 dX8_raiseTree_49) lf_RX8_37 dX8_raiseTree_50) lf_RX8_67 dX8_raiseTree_53) (kE_iload dX8_raiseTree_56) dX8_raiseTree_58) dX8_raiseTree_59) (kE_iload_2 dX8_raiseTree_60) (kJf_0 (tgt := 94) dX8_raiseTree_61 (by decide)))) (kCd_C (kE_iald (kE_get (kE_aload_0 dX8_raiseTree_64) lf_RX8_34 dX8_raiseTree_65) (kE_iald (kE_get (kE_get (kE_aload_0 dX8_raiseTree_68) lf_RX8_37 dX8_raiseTree_69) lf_RX8_70 dX8_raiseTree_72) (kE_iload dX8_raiseTree_75) dX8_raiseTree_77) dX8_raiseTree_78) (kE_iload_2 dX8_raiseTree_79) (kJf_0 (tgt := 94) dX8_raiseTree_80 (by decide)))) (kSt_iastOp (kE_get (kE_aload_0 dX8_raiseTree_83) lf_RX8_9 dX8_raiseTree_84) (kE_iload dX8_raiseTree_87) dX8_raiseTree_89 dX8_raiseTree_90 (kE_ic_1 dX8_raiseTree_91) (kOp_add dX8_raiseTree_92) dX8_raiseTree_93) kSt_skip))) (kSt_goto (tgt := 2) (kSt_inc dX8_raiseTree_94 (by decide)) dX8_raiseTree_97 (by decide))))) (kSt_retV dX8_raiseTree_100))
noncomputable def F_Trees_raiseTree : kFn := kF 3 kN s_Trees_raiseTree
theorem c_Trees_raiseTree : kCon yX8_raiseTree cX8_raiseTree 5 none { frames := 0, cells := 0, slots := 0, locals := 0 } F_Trees_raiseTree := kCon_of kEnds_V (by decide +kernel) (by decide) ⟨0, 0, 0, b_Trees_raiseTree⟩
noncomputable def l_Trees_replace_1 : kSx := sFor 5 (cC 2 (eI 4) (eGet 10 4 (eGet 8 6 (eR 0))))
  (sTrunc 5 (sSeq (sLet 0 5 (eAld 0 (eGet 10 2 (eGet 8 6 (eR 0))) (eI 4)))
  (sSeq (sLet 0 6 (eAld 0 (eGet 8 8 (eR 0)) (eAld 0 (eGet 10 0 (eGet 8 6 (eR 0))) (eI 5))))
  (sSeq (sLet 0 7 (eAld 0 (eGet 8 8 (eR 0)) (eAld 0 (eGet 10 1 (eGet 8 6 (eR 0))) (eI 5))))
  (sIf (cAnd (cAnd (cNot (cZ 1 (eAld 1 (eGet 8 1 (eR 0)) (eI 5)))) (cC 0 (eAld 0 (eGet 8 0 (eR 0)) (eI 5)) (eI 1))) (cOr (cC 0 (eI 6) (eI 2)) (cC 0 (eI 7) (eI 2)))) (sSeq (sIf (cC 0 (eBin kAdd (eI 6) (eI 7)) (eI 3)) (sSeq (sAst 1 (eGet 8 1 (eR 0)) (eI 5) (eK (1)))
  (sRet 0 (eK (1)))) sSkip)
  (sAstOp (eGet 8 0 (eR 0)) (eI 5) kAdd (eK (1)))) sSkip)))))
  (sInc 4 (1))
noncomputable def s_Trees_replace : kSx :=
  (sSeq (sLet 0 3 (eK (3)))
  (sSeq (sTrunc 4 (sSeq (sLet 0 4 (eK (0))) l_Trees_replace_1))
  (sRet 0 (eK (0)))))
abbrev M_Trees_replace : kM := (cX8_replace, yX8_replace.cls, 8, { frames := 0, cells := 0, slots := 0, locals := 0 }, (some .boolean))
set_option maxRecDepth 20000 in
theorem b_Trees_replace : kSt M_Trees_replace 0 0 0 0 s_Trees_replace :=
  (kSt_seq (p1 := 2) (kSt_let (kE_ic_3 dX8_replace_0) (kSet_istore_3 dX8_replace_1 (by decide)))
  (kSt_seq (p1 := 132) (kSt_trunc (kSt_seq (kSt_let (kE_ic_0 dX8_replace_2) (kSet_istore dX8_replace_3 (by decide))) (kSt_for (pu := 126) (pt := 17) (kCd_C (kE_iload dX8_replace_5) (kE_get (kE_get (kE_aload_0 dX8_replace_7) lf_RX8_37 dX8_replace_8) lf_RX8_51 dX8_replace_11) (kJf_2 (tgt := 132) dX8_replace_14 (by decide))) (kSt_trunc (kSt_seq (p1 := 29) (kSt_let (kE_iald (kE_get (kE_get (kE_aload_0 dX8_replace_17) lf_RX8_37 dX8_replace_18) lf_RX8_54 dX8_replace_21) (kE_iload dX8_replace_24) dX8_replace_26) (kSet_istore dX8_replace_27 (by decide)))
  (kSt_seq (p1 := 46) (kSt_let (kE_iald (kE_get (kE_aload_0 dX8_replace_29) lf_RX8_34 dX8_replace_30) (kE_iald (kE_get (kE_get (kE_aload_0 dX8_replace_33) lf_RX8_37 dX8_replace_34) lf_RX8_67 dX8_replace_37) (kE_iload dX8_replace_40) dX8_replace_42) dX8_replace_43) (kSet_istore dX8_replace_44 (by decide)))
  (kSt_seq (p1 := 63) (kSt_let (kE_iald (kE_get (kE_aload_0 dX8_replace_46) lf_RX8_34 dX8_replace_47) (kE_iald (kE_get (kE_get (kE_aload_0 dX8_replace_50) lf_RX8_37 dX8_replace_51) lf_RX8_70 dX8_replace_54) (kE_iload dX8_replace_57) dX8_replace_59) dX8_replace_60) (kSet_istore dX8_replace_61 (by decide)))
  (kSt_if (kCd_and (kCd_and (kCd_not (kCd_Z (kE_zald (kE_get (kE_aload_0 dX8_replace_63) lf_RX8_15 dX8_replace_64) (kE_iload dX8_replace_67) dX8_replace_69) (kZt_1 (tgt := 126) dX8_replace_70 (by decide)))) (kCd_C (kE_iald (kE_get (kE_aload_0 dX8_replace_73) lf_RX8_9 dX8_replace_74) (kE_iload dX8_replace_77) dX8_replace_79) (kE_iload_1 dX8_replace_80) (kJf_0 (tgt := 126) dX8_replace_81 (by decide)))) (kCd_or (kCd_C (kE_iload dX8_replace_84) (kE_iload_2 dX8_replace_86) (kJt_0 (tgt := 96) dX8_replace_87 (by decide))) (kCd_C (kE_iload dX8_replace_90) (kE_iload_2 dX8_replace_92) (kJf_0 (tgt := 126) dX8_replace_93 (by decide))))) (kSt_seq (p1 := 115) (kSt_if (kCd_C (kE_bin (kE_iload dX8_replace_96) (kE_iload dX8_replace_98) (kOp_add dX8_replace_100)) (kE_iload_3 dX8_replace_101) (kJf_0 (tgt := 115) dX8_replace_102 (by decide))) (kSt_seq (p1 := 113) (kSt_zast (kE_get (kE_aload_0 dX8_replace_105) lf_RX8_15 dX8_replace_106) (kE_iload dX8_replace_109) (kE_ic_1 dX8_replace_111) dX8_replace_112)
  (kSt_ret (tag := 0) (kE_ic_1 dX8_replace_113) ⟨fun _ => dX8_replace_114, fun q => (by cases q), fun q => (by cases q)⟩)) kSt_skip)
  (kSt_iastOp (kE_get (kE_aload_0 dX8_replace_115) lf_RX8_9 dX8_replace_116) (kE_iload dX8_replace_119) dX8_replace_121 dX8_replace_122 (kE_ic_1 dX8_replace_123) (kOp_add dX8_replace_124) dX8_replace_125)) kSt_skip))))) (kSt_goto (tgt := 5) (kSt_inc dX8_replace_126 (by decide)) dX8_replace_129 (by decide)))))
  (kSt_ret (tag := 0) (kE_ic_0 dX8_replace_132) ⟨fun _ => dX8_replace_133, fun q => (by cases q), fun q => (by cases q)⟩)))
noncomputable def F_Trees_replace : kFn := kF 3 kZ s_Trees_replace
theorem c_Trees_replace : kCon yX8_replace cX8_replace 8 (some .boolean) { frames := 0, cells := 0, slots := 0, locals := 0 } F_Trees_replace := kCon_of kEnds_Z (by decide +kernel) (by decide) ⟨0, 0, 0, b_Trees_replace⟩
noncomputable def l_Trees_mend_1 : kSx := sFor 4 (cAnd (cZ 3 (eI 3)) (cNot (cZ 1 (eI 2))))
  (sTrunc 4 (sSeq (sCallS F_Ar_fill (eSnoc (eSnoc eNil (eGet 8 8 (eR 0))) (eK (0))))
  (sSeq (sLet 0 4 (eCall 8 F_Trees_gather (eSnoc (eSnoc (eSnoc (eSnoc eNil (eR 0)) (eAld 0 (eGet 10 0 (eGet 8 6 (eR 0))) (eI 1))) (eI 3)) (eK (1)))))
  (sSeq (sLet 0 5 (eCall 8 F_Trees_gather (eSnoc (eSnoc (eSnoc (eSnoc eNil (eR 0)) (eAld 0 (eGet 10 1 (eGet 8 6 (eR 0))) (eI 1))) (eI 3)) (eK (2)))))
  (sSeq (sLet 0 6 (eIf (cC 5 (eI 4) (eI 5)) (eK (1)) (eK (2))))
  (sSeq (sCall 8 F_Trees_raiseTree (eSnoc (eSnoc (eSnoc eNil (eR 0)) (eI 3)) (eI 6)))
  (sLet 0 2 (eCall 8 F_Trees_replace (eSnoc (eSnoc (eSnoc eNil (eR 0)) (eI 3)) (eI 6))))))))))
  (sInc 3 (-1))
noncomputable def s_Trees_mend : kSx :=
  (sSeq (sSeq (sLet 0 2 (eK (0)))
  (sTrunc 3 (sSeq (sLet 0 3 (eAld 0 (eGet 8 0 (eR 0)) (eI 1))) l_Trees_mend_1))) sRetV)
abbrev M_Trees_mend : kM := (cX8_mend, yX8_mend.cls, 7, { frames := 2, cells := 0, slots := 0, locals := 53 }, none)
set_option maxRecDepth 20000 in
theorem b_Trees_mend : kSt M_Trees_mend 0 0 0 0 s_Trees_mend :=
  (kSt_seq (kSt_seq (p1 := 2) (kSt_let (kE_ic_0 dX8_mend_0) (kSet_istore_2 dX8_mend_1 (by decide)))
  (kSt_trunc (kSt_seq (kSt_let (kE_iald (kE_get (kE_aload_0 dX8_mend_2) lf_RX8_9 dX8_mend_3) (kE_iload_1 dX8_mend_6) dX8_mend_7) (kSet_istore_3 dX8_mend_8 (by decide))) (kSt_for (pu := 88) (pt := 17) (kCd_and (kCd_Z (kE_iload_3 dX8_mend_9) (kZf_3 (tgt := 94) dX8_mend_10 (by decide))) (kCd_not (kCd_Z (kE_iload_2 dX8_mend_13) (kZt_1 (tgt := 94) dX8_mend_14 (by decide))))) (kSt_trunc (kSt_seq (p1 := 25) (kSt_callS (kEs_snoc (kEs_snoc kEs_nil (kE_get (kE_aload_0 dX8_mend_17) lf_RX8_34 dX8_mend_18)) (kE_ic_0 dX8_mend_21)) dX8_mend_22 c_Ar_fill mv_Ar_fill lm_RX8_84 ⟨rfl, rfl, by decide, by decide⟩)
  (kSt_seq (p1 := 42) (kSt_let (kE_call (kEs_snoc (kEs_snoc (kEs_snoc (kEs_snoc kEs_nil (kE_aload_0 dX8_mend_25)) (kE_iald (kE_get (kE_get (kE_aload_0 dX8_mend_26) lf_RX8_37 dX8_mend_27) lf_RX8_67 dX8_mend_30) (kE_iload_1 dX8_mend_33) dX8_mend_34)) (kE_iload_3 dX8_mend_35)) (kE_ic_1 dX8_mend_36)) dX8_mend_37 c_Trees_gather mv_Trees_gather lm_RX8_90 ⟨rfl, rfl, by decide, by decide⟩ (by decide)) (kSet_istore dX8_mend_40 (by decide)))
  (kSt_seq (p1 := 59) (kSt_let (kE_call (kEs_snoc (kEs_snoc (kEs_snoc (kEs_snoc kEs_nil (kE_aload_0 dX8_mend_42)) (kE_iald (kE_get (kE_get (kE_aload_0 dX8_mend_43) lf_RX8_37 dX8_mend_44) lf_RX8_70 dX8_mend_47) (kE_iload_1 dX8_mend_50) dX8_mend_51)) (kE_iload_3 dX8_mend_52)) (kE_ic_2 dX8_mend_53)) dX8_mend_54 c_Trees_gather mv_Trees_gather lm_RX8_90 ⟨rfl, rfl, by decide, by decide⟩ (by decide)) (kSet_istore dX8_mend_57 (by decide)))
  (kSt_seq (p1 := 73) (kSt_let (kE_if (kCd_C (kE_iload dX8_mend_59) (kE_iload dX8_mend_61) (kJf_5 (tgt := 70) dX8_mend_63 (by decide))) (kE_goto (tgt := 71) (kE_ic_1 dX8_mend_66) dX8_mend_67 (by decide)) (kE_ic_2 dX8_mend_70)) (kSet_istore dX8_mend_71 (by decide)))
  (kSt_seq (p1 := 80) (kSt_call (kEs_snoc (kEs_snoc (kEs_snoc kEs_nil (kE_aload_0 dX8_mend_73)) (kE_iload_3 dX8_mend_74)) (kE_iload dX8_mend_75)) dX8_mend_77 c_Trees_raiseTree mv_Trees_raiseTree lm_RX8_94 ⟨rfl, rfl, by decide, by decide⟩)
  (kSt_let (kE_call (kEs_snoc (kEs_snoc (kEs_snoc kEs_nil (kE_aload_0 dX8_mend_80)) (kE_iload_3 dX8_mend_81)) (kE_iload dX8_mend_82)) dX8_mend_84 c_Trees_replace mv_Trees_replace lm_RX8_98 ⟨rfl, rfl, by decide, by decide⟩ (by decide)) (kSet_istore_2 dX8_mend_87 (by decide))))))))) (kSt_goto (tgt := 9) (kSt_inc dX8_mend_88 (by decide)) dX8_mend_91 (by decide)))))) (kSt_retV dX8_mend_94))
noncomputable def F_Trees_mend : kFn := kF 2 kN s_Trees_mend
theorem c_Trees_mend : kCon yX8_mend cX8_mend 7 none { frames := 2, cells := 0, slots := 0, locals := 53 } F_Trees_mend := kCon_of kEnds_V (by decide +kernel) (by decide) ⟨0, 0, 0, b_Trees_mend⟩
noncomputable def l_Trees_hangAll_1 : kSx := sFor 2 (cC 2 (eI 1) (eGet 10 3 (eGet 8 6 (eR 0))))
  (sIf (cC 0 (eAld 0 (eGet 8 2 (eR 0)) (eI 1)) (eK (-1))) (sCall 8 F_Trees_hang (eSnoc (eSnoc (eSnoc (eSnoc (eSnoc (eSnoc eNil (eR 0)) (eI 1)) (eK (-1))) (eK (-1))) (eI 1)) (eK (0)))) sSkip)
  (sInc 1 (1))
noncomputable def s_Trees_hangAll : kSx :=
  (sSeq (sSeq (sCallS F_Ar_fill (eSnoc (eSnoc eNil (eGet 8 2 (eR 0))) (eK (-1))))
  (sTrunc 1 (sSeq (sLet 0 1 (eK (0))) l_Trees_hangAll_1))) sRetV)
abbrev M_Trees_hangAll : kM := (cX8_hangAll, yX8_hangAll.cls, 2, { frames := 2, cells := 0, slots := 0, locals := 57 }, none)
set_option maxRecDepth 20000 in
theorem b_Trees_hangAll : kSt M_Trees_hangAll 0 0 0 0 s_Trees_hangAll :=
  (kSt_seq (kSt_seq (p1 := 8) (kSt_callS (kEs_snoc (kEs_snoc kEs_nil (kE_get (kE_aload_0 dX8_hangAll_0) lf_RX8_19 dX8_hangAll_1)) (kE_ic_m1 dX8_hangAll_4)) dX8_hangAll_5 c_Ar_fill mv_Ar_fill lm_RX8_84 ⟨rfl, rfl, by decide, by decide⟩)
  (kSt_trunc (kSt_seq (kSt_let (kE_ic_0 dX8_hangAll_8) (kSet_istore_1 dX8_hangAll_9 (by decide))) (kSt_for (pu := 40) (pt := 21) (kCd_C (kE_iload_1 dX8_hangAll_10) (kE_get (kE_get (kE_aload_0 dX8_hangAll_11) lf_RX8_37 dX8_hangAll_12) lf_RX8_41 dX8_hangAll_15) (kJf_2 (tgt := 46) dX8_hangAll_18 (by decide))) (kSt_if (kCd_C (kE_iald (kE_get (kE_aload_0 dX8_hangAll_21) lf_RX8_19 dX8_hangAll_22) (kE_iload_1 dX8_hangAll_25) dX8_hangAll_26) (kE_ic_m1 dX8_hangAll_27) (kJf_0 (tgt := 40) dX8_hangAll_28 (by decide))) (kSt_call (kEs_snoc (kEs_snoc (kEs_snoc (kEs_snoc (kEs_snoc (kEs_snoc kEs_nil (kE_aload_0 dX8_hangAll_31)) (kE_iload_1 dX8_hangAll_32)) (kE_ic_m1 dX8_hangAll_33)) (kE_ic_m1 dX8_hangAll_34)) (kE_iload_1 dX8_hangAll_35)) (kE_ic_0 dX8_hangAll_36)) dX8_hangAll_37 c_Trees_hang mv_Trees_hang lm_RX8_63 ⟨rfl, rfl, by decide, by decide⟩) kSt_skip) (kSt_goto (tgt := 10) (kSt_inc dX8_hangAll_40 (by decide)) dX8_hangAll_43 (by decide)))))) (kSt_retV dX8_hangAll_46))
noncomputable def F_Trees_hangAll : kFn := kF 1 kN s_Trees_hangAll
theorem c_Trees_hangAll : kCon yX8_hangAll cX8_hangAll 2 none { frames := 2, cells := 0, slots := 0, locals := 57 } F_Trees_hangAll := kCon_of kEnds_V (by decide +kernel) (by decide) ⟨0, 0, 0, b_Trees_hangAll⟩
noncomputable def s_Trees_arcRemoved : kSx :=
  (sSeq (sIf (cZ 1 (eAld 1 (eGet 8 1 (eR 0)) (eI 1))) (sSeq (sCall 8 F_Trees_mend (eSnoc (eSnoc eNil (eR 0)) (eI 1)))
  (sCall 8 F_Trees_hangAll (eSnoc eNil (eR 0)))) sSkip) sRetV)
abbrev M_Trees_arcRemoved : kM := (cX8_arcRemoved, yX8_arcRemoved.cls, 2, { frames := 3, cells := 0, slots := 0, locals := 79 }, none)
set_option maxRecDepth 20000 in
theorem b_Trees_arcRemoved : kSt M_Trees_arcRemoved 0 0 0 0 s_Trees_arcRemoved :=
  (kSt_seq (kSt_if (kCd_Z (kE_zald (kE_get (kE_aload_0 dX8_arcRemoved_0) lf_RX8_15 dX8_arcRemoved_1) (kE_iload_1 dX8_arcRemoved_4) dX8_arcRemoved_5) (kZf_1 (tgt := 18) dX8_arcRemoved_6 (by decide))) (kSt_seq (p1 := 14) (kSt_call (kEs_snoc (kEs_snoc kEs_nil (kE_aload_0 dX8_arcRemoved_9)) (kE_iload_1 dX8_arcRemoved_10)) dX8_arcRemoved_11 c_Trees_mend mv_Trees_mend lm_RX8_77 ⟨rfl, rfl, by decide, by decide⟩)
  (kSt_call (kEs_snoc kEs_nil (kE_aload_0 dX8_arcRemoved_14)) dX8_arcRemoved_15 c_Trees_hangAll mv_Trees_hangAll lm_RX8_81 ⟨rfl, rfl, by decide, by decide⟩)) kSt_skip) (kSt_retV dX8_arcRemoved_18))
noncomputable def F_Trees_arcRemoved : kFn := kF 2 kN s_Trees_arcRemoved
theorem c_Trees_arcRemoved : kCon yX8_arcRemoved cX8_arcRemoved 2 none { frames := 3, cells := 0, slots := 0, locals := 79 } F_Trees_arcRemoved := kCon_of kEnds_V (by decide +kernel) (by decide) ⟨0, 0, 0, b_Trees_arcRemoved⟩
noncomputable def l_Trees_spanJust_1 : kSx := sFor 3 (cC 2 (eI 2) (eGet 10 4 (eGet 8 6 (eR 0))))
  (sTrunc 3 (sSeq (sLet 0 3 (eAld 0 (eGet 10 2 (eGet 8 6 (eR 0))) (eI 2)))
  (sIf (cAnd (cZ 1 (eAld 1 (eGet 8 1 (eR 0)) (eI 3))) (cNot (cZ 1 (eCall 2 F_Joiner_join (eSnoc (eSnoc (eSnoc eNil (eR 1)) (eAld 0 (eGet 10 0 (eGet 8 6 (eR 0))) (eI 3))) (eAld 0 (eGet 10 1 (eGet 8 6 (eR 0))) (eI 3))))))) (sRet 0 (eK (0))) sSkip)))
  (sInc 2 (1))
noncomputable def l_Trees_spanJust_2 : kSx := sFor 3 (cC 2 (eI 2) (eGet 10 4 (eGet 8 6 (eR 0))))
  (sTrunc 3 (sSeq (sLet 0 3 (eAld 0 (eGet 10 2 (eGet 8 6 (eR 0))) (eI 2)))
  (sIf (cNot (cZ 1 (eCall 2 F_Joiner_together (eSnoc (eSnoc (eSnoc eNil (eR 1)) (eAld 0 (eGet 10 0 (eGet 8 6 (eR 0))) (eI 3))) (eAld 0 (eGet 10 1 (eGet 8 6 (eR 0))) (eI 3)))))) (sRet 0 (eK (0))) sSkip)))
  (sInc 2 (1))
noncomputable def s_Trees_spanJust : kSx :=
  (sSeq (sCall 2 F_Joiner_begin (eSnoc (eSnoc eNil (eR 1)) (eGet 10 3 (eGet 8 6 (eR 0)))))
  (sSeq (sTrunc 2 (sSeq (sLet 0 2 (eK (0))) l_Trees_spanJust_1))
  (sSeq (sTrunc 2 (sSeq (sLet 0 2 (eK (0))) l_Trees_spanJust_2))
  (sRet 0 (eK (1))))))
abbrev M_Trees_spanJust : kM := (cX8_spanJust, yX8_spanJust.cls, 4, { frames := 3, cells := 0, slots := 0, locals := 70 }, (some .boolean))
set_option maxRecDepth 20000 in
theorem b_Trees_spanJust : kSt M_Trees_spanJust 0 0 0 0 s_Trees_spanJust :=
  (kSt_seq (p1 := 11) (kSt_call (kEs_snoc (kEs_snoc kEs_nil (kE_aload_1 dX8_spanJust_0)) (kE_get (kE_get (kE_aload_0 dX8_spanJust_1) lf_RX8_37 dX8_spanJust_2) lf_RX8_41 dX8_spanJust_5)) dX8_spanJust_8 c_Joiner_begin mv_Joiner_begin lm_RX8_101 ⟨rfl, rfl, by decide, by decide⟩)
  (kSt_seq (p1 := 76) (kSt_trunc (kSt_seq (kSt_let (kE_ic_0 dX8_spanJust_11) (kSet_istore_2 dX8_spanJust_12 (by decide))) (kSt_for (pu := 70) (pt := 24) (kCd_C (kE_iload_2 dX8_spanJust_13) (kE_get (kE_get (kE_aload_0 dX8_spanJust_14) lf_RX8_37 dX8_spanJust_15) lf_RX8_51 dX8_spanJust_18) (kJf_2 (tgt := 76) dX8_spanJust_21 (by decide))) (kSt_trunc (kSt_seq (p1 := 34) (kSt_let (kE_iald (kE_get (kE_get (kE_aload_0 dX8_spanJust_24) lf_RX8_37 dX8_spanJust_25) lf_RX8_54 dX8_spanJust_28) (kE_iload_2 dX8_spanJust_31) dX8_spanJust_32) (kSet_istore_3 dX8_spanJust_33 (by decide)))
  (kSt_if (kCd_and (kCd_Z (kE_zald (kE_get (kE_aload_0 dX8_spanJust_34) lf_RX8_15 dX8_spanJust_35) (kE_iload_3 dX8_spanJust_38) dX8_spanJust_39) (kZf_1 (tgt := 70) dX8_spanJust_40 (by decide))) (kCd_not (kCd_Z (kE_call (kEs_snoc (kEs_snoc (kEs_snoc kEs_nil (kE_aload_1 dX8_spanJust_43)) (kE_iald (kE_get (kE_get (kE_aload_0 dX8_spanJust_44) lf_RX8_37 dX8_spanJust_45) lf_RX8_67 dX8_spanJust_48) (kE_iload_3 dX8_spanJust_51) dX8_spanJust_52)) (kE_iald (kE_get (kE_get (kE_aload_0 dX8_spanJust_53) lf_RX8_37 dX8_spanJust_54) lf_RX8_70 dX8_spanJust_57) (kE_iload_3 dX8_spanJust_60) dX8_spanJust_61)) dX8_spanJust_62 c_Joiner_join mv_Joiner_join lm_RX8_106 ⟨rfl, rfl, by decide, by decide⟩ (by decide)) (kZt_1 (tgt := 70) dX8_spanJust_65 (by decide))))) (kSt_ret (tag := 0) (kE_ic_0 dX8_spanJust_68) ⟨fun _ => dX8_spanJust_69, fun q => (by cases q), fun q => (by cases q)⟩) kSt_skip))) (kSt_goto (tgt := 13) (kSt_inc dX8_spanJust_70 (by decide)) dX8_spanJust_73 (by decide)))))
  (kSt_seq (p1 := 132) (kSt_trunc (kSt_seq (kSt_let (kE_ic_0 dX8_spanJust_76) (kSet_istore_2 dX8_spanJust_77 (by decide))) (kSt_for (pu := 126) (pt := 89) (kCd_C (kE_iload_2 dX8_spanJust_78) (kE_get (kE_get (kE_aload_0 dX8_spanJust_79) lf_RX8_37 dX8_spanJust_80) lf_RX8_51 dX8_spanJust_83) (kJf_2 (tgt := 132) dX8_spanJust_86 (by decide))) (kSt_trunc (kSt_seq (p1 := 99) (kSt_let (kE_iald (kE_get (kE_get (kE_aload_0 dX8_spanJust_89) lf_RX8_37 dX8_spanJust_90) lf_RX8_54 dX8_spanJust_93) (kE_iload_2 dX8_spanJust_96) dX8_spanJust_97) (kSet_istore_3 dX8_spanJust_98 (by decide)))
  (kSt_if (kCd_not (kCd_Z (kE_call (kEs_snoc (kEs_snoc (kEs_snoc kEs_nil (kE_aload_1 dX8_spanJust_99)) (kE_iald (kE_get (kE_get (kE_aload_0 dX8_spanJust_100) lf_RX8_37 dX8_spanJust_101) lf_RX8_67 dX8_spanJust_104) (kE_iload_3 dX8_spanJust_107) dX8_spanJust_108)) (kE_iald (kE_get (kE_get (kE_aload_0 dX8_spanJust_109) lf_RX8_37 dX8_spanJust_110) lf_RX8_70 dX8_spanJust_113) (kE_iload_3 dX8_spanJust_116) dX8_spanJust_117)) dX8_spanJust_118 c_Joiner_together mv_Joiner_together lm_RX8_109 ⟨rfl, rfl, by decide, by decide⟩ (by decide)) (kZt_1 (tgt := 126) dX8_spanJust_121 (by decide)))) (kSt_ret (tag := 0) (kE_ic_0 dX8_spanJust_124) ⟨fun _ => dX8_spanJust_125, fun q => (by cases q), fun q => (by cases q)⟩) kSt_skip))) (kSt_goto (tgt := 78) (kSt_inc dX8_spanJust_126 (by decide)) dX8_spanJust_129 (by decide)))))
  (kSt_ret (tag := 0) (kE_ic_1 dX8_spanJust_132) ⟨fun _ => dX8_spanJust_133, fun q => (by cases q), fun q => (by cases q)⟩))))
noncomputable def F_Trees_spanJust : kFn := kF 2 kZ s_Trees_spanJust
theorem c_Trees_spanJust : kCon yX8_spanJust cX8_spanJust 4 (some .boolean) { frames := 3, cells := 0, slots := 0, locals := 70 } F_Trees_spanJust := kCon_of kEnds_Z (by decide +kernel) (by decide) ⟨0, 0, 0, b_Trees_spanJust⟩
noncomputable def l_Trees_greatestTree_1 : kSx := sFor 4 (cC 2 (eI 3) (eGet 10 4 (eGet 8 6 (eR 0))))
  (sTrunc 4 (sSeq (sLet 0 4 (eAld 0 (eGet 10 2 (eGet 8 6 (eR 0))) (eI 3)))
  (sIf (cAnd (cZ 1 (eAld 1 (eGet 8 1 (eR 0)) (eI 4))) (cC 3 (eAld 0 (eGet 8 0 (eR 0)) (eI 4)) (eI 2))) (sE (eCall 2 F_Joiner_join (eSnoc (eSnoc (eSnoc eNil (eR 1)) (eAld 0 (eGet 10 0 (eGet 8 6 (eR 0))) (eI 4))) (eAld 0 (eGet 10 1 (eGet 8 6 (eR 0))) (eI 4))))) sSkip)))
  (sInc 3 (1))
noncomputable def s_Trees_greatestTree : kSx :=
  (sSeq (sCall 2 F_Joiner_begin (eSnoc (eSnoc eNil (eR 1)) (eGet 10 3 (eGet 8 6 (eR 0)))))
  (sSeq (sTrunc 3 (sSeq (sLet 0 3 (eK (0))) l_Trees_greatestTree_1))
  (sRet 0 (eGet 2 2 (eR 1)))))
abbrev M_Trees_greatestTree : kM := (cX8_greatestTree, yX8_greatestTree.cls, 5, { frames := 3, cells := 0, slots := 0, locals := 70 }, (some .int))
set_option maxRecDepth 20000 in
theorem b_Trees_greatestTree : kSt M_Trees_greatestTree 0 0 0 0 s_Trees_greatestTree :=
  (kSt_seq (p1 := 11) (kSt_call (kEs_snoc (kEs_snoc kEs_nil (kE_aload_1 dX8_greatestTree_0)) (kE_get (kE_get (kE_aload_0 dX8_greatestTree_1) lf_RX8_37 dX8_greatestTree_2) lf_RX8_41 dX8_greatestTree_5)) dX8_greatestTree_8 c_Joiner_begin mv_Joiner_begin lm_RX8_101 ⟨rfl, rfl, by decide, by decide⟩)
  (kSt_seq (p1 := 87) (kSt_trunc (kSt_seq (kSt_let (kE_ic_0 dX8_greatestTree_11) (kSet_istore_3 dX8_greatestTree_12 (by decide))) (kSt_for (pu := 81) (pt := 24) (kCd_C (kE_iload_3 dX8_greatestTree_13) (kE_get (kE_get (kE_aload_0 dX8_greatestTree_14) lf_RX8_37 dX8_greatestTree_15) lf_RX8_51 dX8_greatestTree_18) (kJf_2 (tgt := 87) dX8_greatestTree_21 (by decide))) (kSt_trunc (kSt_seq (p1 := 35) (kSt_let (kE_iald (kE_get (kE_get (kE_aload_0 dX8_greatestTree_24) lf_RX8_37 dX8_greatestTree_25) lf_RX8_54 dX8_greatestTree_28) (kE_iload_3 dX8_greatestTree_31) dX8_greatestTree_32) (kSet_istore dX8_greatestTree_33 (by decide)))
  (kSt_if (kCd_and (kCd_Z (kE_zald (kE_get (kE_aload_0 dX8_greatestTree_35) lf_RX8_15 dX8_greatestTree_36) (kE_iload dX8_greatestTree_39) dX8_greatestTree_41) (kZf_1 (tgt := 81) dX8_greatestTree_42 (by decide))) (kCd_C (kE_iald (kE_get (kE_aload_0 dX8_greatestTree_45) lf_RX8_9 dX8_greatestTree_46) (kE_iload dX8_greatestTree_49) dX8_greatestTree_51) (kE_iload_2 dX8_greatestTree_52) (kJf_3 (tgt := 81) dX8_greatestTree_53 (by decide)))) (kSt_E (kE_call (kEs_snoc (kEs_snoc (kEs_snoc kEs_nil (kE_aload_1 dX8_greatestTree_56)) (kE_iald (kE_get (kE_get (kE_aload_0 dX8_greatestTree_57) lf_RX8_37 dX8_greatestTree_58) lf_RX8_67 dX8_greatestTree_61) (kE_iload dX8_greatestTree_64) dX8_greatestTree_66)) (kE_iald (kE_get (kE_get (kE_aload_0 dX8_greatestTree_67) lf_RX8_37 dX8_greatestTree_68) lf_RX8_70 dX8_greatestTree_71) (kE_iload dX8_greatestTree_74) dX8_greatestTree_76)) dX8_greatestTree_77 c_Joiner_join mv_Joiner_join lm_RX8_106 ⟨rfl, rfl, by decide, by decide⟩ (by decide)) dX8_greatestTree_80) kSt_skip))) (kSt_goto (tgt := 13) (kSt_inc dX8_greatestTree_81 (by decide)) dX8_greatestTree_84 (by decide)))))
  (kSt_ret (tag := 0) (kE_get (kE_aload_1 dX8_greatestTree_87) lf_RX8_117 dX8_greatestTree_88) ⟨fun _ => dX8_greatestTree_91, fun q => (by cases q), fun q => (by cases q)⟩)))
noncomputable def F_Trees_greatestTree : kFn := kF 3 kI s_Trees_greatestTree
theorem c_Trees_greatestTree : kCon yX8_greatestTree cX8_greatestTree 5 (some .int) { frames := 3, cells := 0, slots := 0, locals := 70 } F_Trees_greatestTree := kCon_of kEnds_I (by decide +kernel) (by decide) ⟨0, 0, 0, b_Trees_greatestTree⟩
noncomputable def l_Trees_levelsHold_1 : kSx := sFor 5 (cC 5 (eI 4) (eI 3))
  (sSeq (sIf (cC 4 (eCall 8 F_Trees_greatestTree (eSnoc (eSnoc (eSnoc eNil (eR 0)) (eR 1)) (eI 4))) (eI 2)) (sRet 0 (eK (0))) sSkip)
  (sLet 0 2 (eBin kDiv (eI 2) (eK (2)))))
  (sInc 4 (1))
noncomputable def s_Trees_levelsHold : kSx :=
  (sSeq (sLet 0 2 (eGet 10 3 (eGet 8 6 (eR 0))))
  (sSeq (sLet 0 3 (eCall 8 F_Trees_greatestLevel (eSnoc eNil (eR 0))))
  (sSeq (sTrunc 4 (sSeq (sLet 0 4 (eK (0))) l_Trees_levelsHold_1))
  (sRet 0 (eK (1))))))
abbrev M_Trees_levelsHold : kM := (cX8_levelsHold, yX8_levelsHold.cls, 5, { frames := 4, cells := 0, slots := 0, locals := 94 }, (some .boolean))
set_option maxRecDepth 20000 in
theorem b_Trees_levelsHold : kSt M_Trees_levelsHold 0 0 0 0 s_Trees_levelsHold :=
  (kSt_seq (p1 := 8) (kSt_let (kE_get (kE_get (kE_aload_0 dX8_levelsHold_0) lf_RX8_37 dX8_levelsHold_1) lf_RX8_41 dX8_levelsHold_4) (kSet_istore_2 dX8_levelsHold_7 (by decide)))
  (kSt_seq (p1 := 13) (kSt_let (kE_call (kEs_snoc kEs_nil (kE_aload_0 dX8_levelsHold_8)) dX8_levelsHold_9 c_Trees_greatestLevel mv_Trees_greatestLevel lm_RX8_110 ⟨rfl, rfl, by decide, by decide⟩ (by decide)) (kSet_istore_3 dX8_levelsHold_12 (by decide)))
  (kSt_seq (p1 := 45) (kSt_trunc (kSt_seq (kSt_let (kE_ic_0 dX8_levelsHold_13) (kSet_istore dX8_levelsHold_14 (by decide))) (kSt_for (pu := 39) (pt := 22) (kCd_C (kE_iload dX8_levelsHold_16) (kE_iload_3 dX8_levelsHold_18) (kJf_5 (tgt := 45) dX8_levelsHold_19 (by decide))) (kSt_seq (p1 := 35) (kSt_if (kCd_C (kE_call (kEs_snoc (kEs_snoc (kEs_snoc kEs_nil (kE_aload_0 dX8_levelsHold_22)) (kE_aload_1 dX8_levelsHold_23)) (kE_iload dX8_levelsHold_24)) dX8_levelsHold_26 c_Trees_greatestTree mv_Trees_greatestTree lm_RX8_113 ⟨rfl, rfl, by decide, by decide⟩ (by decide)) (kE_iload_2 dX8_levelsHold_29) (kJf_4 (tgt := 35) dX8_levelsHold_30 (by decide))) (kSt_ret (tag := 0) (kE_ic_0 dX8_levelsHold_33) ⟨fun _ => dX8_levelsHold_34, fun q => (by cases q), fun q => (by cases q)⟩) kSt_skip)
  (kSt_let (kE_bin (kE_iload_2 dX8_levelsHold_35) (kE_ic_2 dX8_levelsHold_36) (kOp_div dX8_levelsHold_37)) (kSet_istore_2 dX8_levelsHold_38 (by decide)))) (kSt_goto (tgt := 16) (kSt_inc dX8_levelsHold_39 (by decide)) dX8_levelsHold_42 (by decide)))))
  (kSt_ret (tag := 0) (kE_ic_1 dX8_levelsHold_45) ⟨fun _ => dX8_levelsHold_46, fun q => (by cases q), fun q => (by cases q)⟩))))
noncomputable def F_Trees_levelsHold : kFn := kF 2 kZ s_Trees_levelsHold
theorem c_Trees_levelsHold : kCon yX8_levelsHold cX8_levelsHold 5 (some .boolean) { frames := 4, cells := 0, slots := 0, locals := 94 } F_Trees_levelsHold := kCon_of kEnds_Z (by decide +kernel) (by decide) ⟨0, 0, 0, b_Trees_levelsHold⟩
noncomputable def s_OddArcs_has : kSx :=
  (sSeq (sLet 0 2 (eBin kAdd (eAld 0 (eGet 8 5 (eGet 3 1 (eR 0))) (eAld 0 (eGet 10 0 (eGet 3 0 (eR 0))) (eI 1))) (eAld 0 (eGet 8 5 (eGet 3 1 (eR 0))) (eAld 0 (eGet 10 1 (eGet 3 0 (eR 0))) (eI 1)))))
  (sRet 0 (eIf (cAnd (cNot (cZ 1 (eAld 1 (eGet 8 1 (eGet 3 1 (eR 0))) (eI 1)))) (cZ 0 (eBin kAnd (eI 2) (eK (1))))) (eK (1)) (eK (0)))))
abbrev M_OddArcs_has : kM := (cX3_has, yX3_has.cls, 3, { frames := 0, cells := 0, slots := 0, locals := 0 }, (some .boolean))
set_option maxRecDepth 20000 in
theorem b_OddArcs_has : kSt M_OddArcs_has 0 0 0 0 s_OddArcs_has :=
  (kSt_seq (p1 := 36) (kSt_let (kE_bin (kE_iald (kE_get (kE_get (kE_aload_0 dX3_has_0) lf_RX3_19 dX3_has_1) lf_RX3_23 dX3_has_4) (kE_iald (kE_get (kE_get (kE_aload_0 dX3_has_7) lf_RX3_15 dX3_has_8) lf_RX3_29 dX3_has_11) (kE_iload_1 dX3_has_14) dX3_has_15) dX3_has_16) (kE_iald (kE_get (kE_get (kE_aload_0 dX3_has_17) lf_RX3_19 dX3_has_18) lf_RX3_23 dX3_has_21) (kE_iald (kE_get (kE_get (kE_aload_0 dX3_has_24) lf_RX3_15 dX3_has_25) lf_RX3_34 dX3_has_28) (kE_iload_1 dX3_has_31) dX3_has_32) dX3_has_33) (kOp_add dX3_has_34)) (kSet_istore_2 dX3_has_35 (by decide)))
  (kSt_ret (tag := 0) (kE_if (kCd_and (kCd_not (kCd_Z (kE_zald (kE_get (kE_get (kE_aload_0 dX3_has_36) lf_RX3_19 dX3_has_37) lf_RX3_37 dX3_has_40) (kE_iload_1 dX3_has_43) dX3_has_44) (kZt_1 (tgt := 58) dX3_has_45 (by decide)))) (kCd_Z (kE_bin (kE_iload_2 dX3_has_48) (kE_ic_1 dX3_has_49) (kOp_and dX3_has_50)) (kZf_0 (tgt := 58) dX3_has_51 (by decide)))) (kE_goto (tgt := 59) (kE_ic_1 dX3_has_54) dX3_has_55 (by decide)) (kE_ic_0 dX3_has_58)) ⟨fun _ => dX3_has_59, fun q => (by cases q), fun q => (by cases q)⟩))
noncomputable def F_OddArcs_has : kFn := kF 2 kZ s_OddArcs_has
theorem c_OddArcs_has : kCon yX3_has cX3_has 3 (some .boolean) { frames := 0, cells := 0, slots := 0, locals := 0 } F_OddArcs_has := kCon_of kEnds_Z (by decide +kernel) (by decide) ⟨0, 0, 0, b_OddArcs_has⟩
noncomputable def l_OddArcs_leastIn_1 : kSx := sFor 3 (cC 2 (eI 2) (eGet 10 4 (eGet 3 0 (eR 0))))
  (sTrunc 3 (sSeq (sLet 0 3 (eAld 0 (eGet 10 2 (eGet 3 0 (eR 0))) (eI 2)))
  (sIf (cAnd (cZ 1 (eCall 3 F_OddArcs_has (eSnoc (eSnoc eNil (eR 0)) (eI 3)))) (cZ 1 (eCall 8 F_Trees_together (eSnoc (eSnoc (eSnoc eNil (eGet 3 1 (eR 0))) (eI 1)) (eAld 0 (eGet 10 0 (eGet 3 0 (eR 0))) (eI 3)))))) (sRet 0 (eI 3)) sSkip)))
  (sInc 2 (1))
noncomputable def s_OddArcs_leastIn : kSx :=
  (sSeq (sTrunc 2 (sSeq (sLet 0 2 (eK (0))) l_OddArcs_leastIn_1))
  (sRet 0 (eK (-1))))
abbrev M_OddArcs_leastIn : kM := (cX3_leastIn, yX3_leastIn.cls, 4, { frames := 1, cells := 0, slots := 0, locals := 22 }, (some .int))
set_option maxRecDepth 20000 in
theorem b_OddArcs_leastIn : kSt M_OddArcs_leastIn 0 0 0 0 s_OddArcs_leastIn :=
  (kSt_seq (p1 := 59) (kSt_trunc (kSt_seq (kSt_let (kE_ic_0 dX3_leastIn_0) (kSet_istore_2 dX3_leastIn_1 (by decide))) (kSt_for (pu := 53) (pt := 13) (kCd_C (kE_iload_2 dX3_leastIn_2) (kE_get (kE_get (kE_aload_0 dX3_leastIn_3) lf_RX3_15 dX3_leastIn_4) lf_RX3_40 dX3_leastIn_7) (kJf_2 (tgt := 59) dX3_leastIn_10 (by decide))) (kSt_trunc (kSt_seq (p1 := 23) (kSt_let (kE_iald (kE_get (kE_get (kE_aload_0 dX3_leastIn_13) lf_RX3_15 dX3_leastIn_14) lf_RX3_44 dX3_leastIn_17) (kE_iload_2 dX3_leastIn_20) dX3_leastIn_21) (kSet_istore_3 dX3_leastIn_22 (by decide)))
  (kSt_if (kCd_and (kCd_Z (kE_call (kEs_snoc (kEs_snoc kEs_nil (kE_aload_0 dX3_leastIn_23)) (kE_iload_3 dX3_leastIn_24)) dX3_leastIn_25 c_OddArcs_has mv_OddArcs_has lm_RX3_47 ⟨rfl, rfl, by decide, by decide⟩ (by decide)) (kZf_1 (tgt := 53) dX3_leastIn_28 (by decide))) (kCd_Z (kE_call (kEs_snoc (kEs_snoc (kEs_snoc kEs_nil (kE_get (kE_aload_0 dX3_leastIn_31) lf_RX3_19 dX3_leastIn_32)) (kE_iload_1 dX3_leastIn_35)) (kE_iald (kE_get (kE_get (kE_aload_0 dX3_leastIn_36) lf_RX3_15 dX3_leastIn_37) lf_RX3_29 dX3_leastIn_40) (kE_iload_3 dX3_leastIn_43) dX3_leastIn_44)) dX3_leastIn_45 c_Trees_together mv_Trees_together lm_RX3_51 ⟨rfl, rfl, by decide, by decide⟩ (by decide)) (kZf_1 (tgt := 53) dX3_leastIn_48 (by decide)))) (kSt_ret (tag := 0) (kE_iload_3 dX3_leastIn_51) ⟨fun _ => dX3_leastIn_52, fun q => (by cases q), fun q => (by cases q)⟩) kSt_skip))) (kSt_goto (tgt := 2) (kSt_inc dX3_leastIn_53 (by decide)) dX3_leastIn_56 (by decide)))))
  (kSt_ret (tag := 0) (kE_ic_m1 dX3_leastIn_59) ⟨fun _ => dX3_leastIn_60, fun q => (by cases q), fun q => (by cases q)⟩))
noncomputable def F_OddArcs_leastIn : kFn := kF 2 kI s_OddArcs_leastIn
theorem c_OddArcs_leastIn : kCon yX3_leastIn cX3_leastIn 4 (some .int) { frames := 1, cells := 0, slots := 0, locals := 22 } F_OddArcs_leastIn := kCon_of kEnds_I (by decide +kernel) (by decide) ⟨0, 0, 0, b_OddArcs_leastIn⟩
noncomputable def l_OddArcs_evenParts_1 : kSx := sFor 2 (cC 2 (eI 1) (eGet 10 3 (eGet 3 0 (eR 0))))
  (sAst 1 (eGet 3 2 (eR 0)) (eI 1) (eK (0)))
  (sInc 1 (1))
noncomputable def l_OddArcs_evenParts_2 : kSx := sFor 3 (cC 2 (eI 2) (eGet 10 4 (eGet 3 0 (eR 0))))
  (sTrunc 3 (sSeq (sLet 0 3 (eAld 0 (eGet 10 2 (eGet 3 0 (eR 0))) (eI 2)))
  (sSeq (sLet 0 4 (eAld 0 (eGet 8 2 (eGet 3 1 (eR 0))) (eAld 0 (eGet 10 0 (eGet 3 0 (eR 0))) (eI 3))))
  (sIf (cAnd (cZ 1 (eCall 3 F_OddArcs_has (eSnoc (eSnoc eNil (eR 0)) (eI 3)))) (cNot (cZ 1 (eAld 1 (eGet 3 2 (eR 0)) (eI 4))))) (sSeq (sAst 1 (eGet 3 2 (eR 0)) (eI 4) (eK (1)))
  (sInc 1 (-1))) sSkip))))
  (sInc 2 (1))
noncomputable def s_OddArcs_evenParts : kSx :=
  (sSeq (sTrunc 1 (sSeq (sLet 0 1 (eK (0))) l_OddArcs_evenParts_1))
  (sSeq (sLet 0 1 (eCall 8 F_Trees_parts (eSnoc eNil (eGet 3 1 (eR 0)))))
  (sSeq (sTrunc 2 (sSeq (sLet 0 2 (eK (0))) l_OddArcs_evenParts_2))
  (sRet 0 (eI 1)))))
abbrev M_OddArcs_evenParts : kM := (cX3_evenParts, yX3_evenParts.cls, 5, { frames := 2, cells := 0, slots := 0, locals := 42 }, (some .int))
set_option maxRecDepth 20000 in
theorem b_OddArcs_evenParts : kSt M_OddArcs_evenParts 0 0 0 0 s_OddArcs_evenParts :=
  (kSt_seq (p1 := 26) (kSt_trunc (kSt_seq (kSt_let (kE_ic_0 dX3_evenParts_0) (kSet_istore_1 dX3_evenParts_1 (by decide))) (kSt_for (pu := 20) (pt := 13) (kCd_C (kE_iload_1 dX3_evenParts_2) (kE_get (kE_get (kE_aload_0 dX3_evenParts_3) lf_RX3_15 dX3_evenParts_4) lf_RX3_55 dX3_evenParts_7) (kJf_2 (tgt := 26) dX3_evenParts_10 (by decide))) (kSt_zast (kE_get (kE_aload_0 dX3_evenParts_13) lf_RX3_9 dX3_evenParts_14) (kE_iload_1 dX3_evenParts_17) (kE_ic_0 dX3_evenParts_18) dX3_evenParts_19) (kSt_goto (tgt := 2) (kSt_inc dX3_evenParts_20 (by decide)) dX3_evenParts_23 (by decide)))))
  (kSt_seq (p1 := 34) (kSt_let (kE_call (kEs_snoc kEs_nil (kE_get (kE_aload_0 dX3_evenParts_26) lf_RX3_19 dX3_evenParts_27)) dX3_evenParts_30 c_Trees_parts mv_Trees_parts lm_RX3_58 ⟨rfl, rfl, by decide, by decide⟩ (by decide)) (kSet_istore_1 dX3_evenParts_33 (by decide)))
  (kSt_seq (p1 := 111) (kSt_trunc (kSt_seq (kSt_let (kE_ic_0 dX3_evenParts_34) (kSet_istore_2 dX3_evenParts_35 (by decide))) (kSt_for (pu := 105) (pt := 47) (kCd_C (kE_iload_2 dX3_evenParts_36) (kE_get (kE_get (kE_aload_0 dX3_evenParts_37) lf_RX3_15 dX3_evenParts_38) lf_RX3_40 dX3_evenParts_41) (kJf_2 (tgt := 111) dX3_evenParts_44 (by decide))) (kSt_trunc (kSt_seq (p1 := 57) (kSt_let (kE_iald (kE_get (kE_get (kE_aload_0 dX3_evenParts_47) lf_RX3_15 dX3_evenParts_48) lf_RX3_44 dX3_evenParts_51) (kE_iload_2 dX3_evenParts_54) dX3_evenParts_55) (kSet_istore_3 dX3_evenParts_56 (by decide)))
  (kSt_seq (p1 := 76) (kSt_let (kE_iald (kE_get (kE_get (kE_aload_0 dX3_evenParts_57) lf_RX3_19 dX3_evenParts_58) lf_RX3_62 dX3_evenParts_61) (kE_iald (kE_get (kE_get (kE_aload_0 dX3_evenParts_64) lf_RX3_15 dX3_evenParts_65) lf_RX3_29 dX3_evenParts_68) (kE_iload_3 dX3_evenParts_71) dX3_evenParts_72) dX3_evenParts_73) (kSet_istore dX3_evenParts_74 (by decide)))
  (kSt_if (kCd_and (kCd_Z (kE_call (kEs_snoc (kEs_snoc kEs_nil (kE_aload_0 dX3_evenParts_76)) (kE_iload_3 dX3_evenParts_77)) dX3_evenParts_78 c_OddArcs_has mv_OddArcs_has lm_RX3_47 ⟨rfl, rfl, by decide, by decide⟩ (by decide)) (kZf_1 (tgt := 105) dX3_evenParts_81 (by decide))) (kCd_not (kCd_Z (kE_zald (kE_get (kE_aload_0 dX3_evenParts_84) lf_RX3_9 dX3_evenParts_85) (kE_iload dX3_evenParts_88) dX3_evenParts_90) (kZt_1 (tgt := 105) dX3_evenParts_91 (by decide))))) (kSt_seq (p1 := 102) (kSt_zast (kE_get (kE_aload_0 dX3_evenParts_94) lf_RX3_9 dX3_evenParts_95) (kE_iload dX3_evenParts_98) (kE_ic_1 dX3_evenParts_100) dX3_evenParts_101)
  (kSt_inc dX3_evenParts_102 (by decide))) kSt_skip)))) (kSt_goto (tgt := 36) (kSt_inc dX3_evenParts_105 (by decide)) dX3_evenParts_108 (by decide)))))
  (kSt_ret (tag := 0) (kE_iload_1 dX3_evenParts_111) ⟨fun _ => dX3_evenParts_112, fun q => (by cases q), fun q => (by cases q)⟩))))
noncomputable def F_OddArcs_evenParts : kFn := kF 1 kI s_OddArcs_evenParts
theorem c_OddArcs_evenParts : kCon yX3_evenParts cX3_evenParts 5 (some .int) { frames := 2, cells := 0, slots := 0, locals := 42 } F_OddArcs_evenParts := kCon_of kEnds_I (by decide +kernel) (by decide) ⟨0, 0, 0, b_OddArcs_evenParts⟩
noncomputable def l_OddArcs_climb_1 : kSx := sFor 5 (cAnd (cC 2 (eI 4) (eI 2)) (cC 1 (eAld 0 (eGet 8 3 (eGet 3 1 (eR 0))) (eI 3)) (eK (-1))))
  (sLet 0 3 (eAld 0 (eGet 8 3 (eGet 3 1 (eR 0))) (eI 3)))
  (sInc 4 (1))
noncomputable def s_OddArcs_climb : kSx :=
  (sSeq (sLet 0 3 (eI 1))
  (sSeq (sTrunc 4 (sSeq (sLet 0 4 (eK (0))) l_OddArcs_climb_1))
  (sRet 0 (eI 3))))
abbrev M_OddArcs_climb : kM := (cX3_climb, yX3_climb.cls, 5, { frames := 0, cells := 0, slots := 0, locals := 0 }, (some .int))
set_option maxRecDepth 20000 in
theorem b_OddArcs_climb : kSt M_OddArcs_climb 0 0 0 0 s_OddArcs_climb :=
  (kSt_seq (p1 := 2) (kSt_let (kE_iload_1 dX3_climb_0) (kSet_istore_3 dX3_climb_1 (by decide)))
  (kSt_seq (p1 := 40) (kSt_trunc (kSt_seq (kSt_let (kE_ic_0 dX3_climb_2) (kSet_istore dX3_climb_3 (by decide))) (kSt_for (pu := 34) (pt := 24) (kCd_and (kCd_C (kE_iload dX3_climb_5) (kE_iload_2 dX3_climb_7) (kJf_2 (tgt := 40) dX3_climb_8 (by decide))) (kCd_C (kE_iald (kE_get (kE_get (kE_aload_0 dX3_climb_11) lf_RX3_19 dX3_climb_12) lf_RX3_79 dX3_climb_15) (kE_iload_3 dX3_climb_18) dX3_climb_19) (kE_ic_m1 dX3_climb_20) (kJf_1 (tgt := 40) dX3_climb_21 (by decide)))) (kSt_let (kE_iald (kE_get (kE_get (kE_aload_0 dX3_climb_24) lf_RX3_19 dX3_climb_25) lf_RX3_79 dX3_climb_28) (kE_iload_3 dX3_climb_31) dX3_climb_32) (kSet_istore_3 dX3_climb_33 (by decide))) (kSt_goto (tgt := 5) (kSt_inc dX3_climb_34 (by decide)) dX3_climb_37 (by decide)))))
  (kSt_ret (tag := 0) (kE_iload_3 dX3_climb_40) ⟨fun _ => dX3_climb_41, fun q => (by cases q), fun q => (by cases q)⟩)))
noncomputable def F_OddArcs_climb : kFn := kF 3 kI s_OddArcs_climb
theorem c_OddArcs_climb : kCon yX3_climb cX3_climb 5 (some .int) { frames := 0, cells := 0, slots := 0, locals := 0 } F_OddArcs_climb := kCon_of kEnds_I (by decide +kernel) (by decide) ⟨0, 0, 0, b_OddArcs_climb⟩
noncomputable def l_OddArcs_meeting_1 : kSx := sFor 6 (cAnd (cC 2 (eI 5) (eK (600))) (cC 1 (eI 3) (eI 4)))
  (sIf (cC 3 (eAld 0 (eGet 8 5 (eGet 3 1 (eR 0))) (eI 3)) (eAld 0 (eGet 8 5 (eGet 3 1 (eR 0))) (eI 4))) (sLet 0 3 (eCall 3 F_OddArcs_climb (eSnoc (eSnoc (eSnoc eNil (eR 0)) (eI 3)) (eK (1)))))
  (sLet 0 4 (eCall 3 F_OddArcs_climb (eSnoc (eSnoc (eSnoc eNil (eR 0)) (eI 4)) (eK (1))))))
  (sInc 5 (1))
noncomputable def s_OddArcs_meeting : kSx :=
  (sSeq (sLet 0 3 (eI 1))
  (sSeq (sLet 0 4 (eI 2))
  (sSeq (sTrunc 5 (sSeq (sLet 0 5 (eK (0))) l_OddArcs_meeting_1))
  (sRet 0 (eI 3)))))
abbrev M_OddArcs_meeting : kM := (cX3_meeting, yX3_meeting.cls, 6, { frames := 1, cells := 0, slots := 0, locals := 24 }, (some .int))
set_option maxRecDepth 20000 in
theorem b_OddArcs_meeting : kSt M_OddArcs_meeting 0 0 0 0 s_OddArcs_meeting :=
  (kSt_seq (p1 := 2) (kSt_let (kE_iload_1 dX3_meeting_0) (kSet_istore_3 dX3_meeting_1 (by decide)))
  (kSt_seq (p1 := 5) (kSt_let (kE_iload_2 dX3_meeting_2) (kSet_istore dX3_meeting_3 (by decide)))
  (kSt_seq (p1 := 69) (kSt_trunc (kSt_seq (kSt_let (kE_ic_0 dX3_meeting_5) (kSet_istore dX3_meeting_6 (by decide))) (kSt_for (pu := 63) (pt := 22) (kCd_and (kCd_C (kE_iload dX3_meeting_8) (kE_sipush dX3_meeting_10 (by rfl) ⟨by decide, by decide⟩) (kJf_2 (tgt := 69) dX3_meeting_13 (by decide))) (kCd_C (kE_iload_3 dX3_meeting_16) (kE_iload dX3_meeting_17) (kJf_1 (tgt := 69) dX3_meeting_19 (by decide)))) (kSt_if (kCd_C (kE_iald (kE_get (kE_get (kE_aload_0 dX3_meeting_22) lf_RX3_19 dX3_meeting_23) lf_RX3_23 dX3_meeting_26) (kE_iload_3 dX3_meeting_29) dX3_meeting_30) (kE_iald (kE_get (kE_get (kE_aload_0 dX3_meeting_31) lf_RX3_19 dX3_meeting_32) lf_RX3_23 dX3_meeting_35) (kE_iload dX3_meeting_38) dX3_meeting_40) (kJf_3 (tgt := 54) dX3_meeting_41 (by decide))) (kSt_goto (tgt := 63) (kSt_let (kE_call (kEs_snoc (kEs_snoc (kEs_snoc kEs_nil (kE_aload_0 dX3_meeting_44)) (kE_iload_3 dX3_meeting_45)) (kE_ic_1 dX3_meeting_46)) dX3_meeting_47 c_OddArcs_climb mv_OddArcs_climb lm_RX3_76 ⟨rfl, rfl, by decide, by decide⟩ (by decide)) (kSet_istore_3 dX3_meeting_50 (by decide))) dX3_meeting_51 (by decide))
  (kSt_let (kE_call (kEs_snoc (kEs_snoc (kEs_snoc kEs_nil (kE_aload_0 dX3_meeting_54)) (kE_iload dX3_meeting_55)) (kE_ic_1 dX3_meeting_57)) dX3_meeting_58 c_OddArcs_climb mv_OddArcs_climb lm_RX3_76 ⟨rfl, rfl, by decide, by decide⟩ (by decide)) (kSet_istore dX3_meeting_61 (by decide)))) (kSt_goto (tgt := 8) (kSt_inc dX3_meeting_63 (by decide)) dX3_meeting_66 (by decide)))))
  (kSt_ret (tag := 0) (kE_iload_3 dX3_meeting_69) ⟨fun _ => dX3_meeting_70, fun q => (by cases q), fun q => (by cases q)⟩))))
noncomputable def F_OddArcs_meeting : kFn := kF 3 kI s_OddArcs_meeting
theorem c_OddArcs_meeting : kCon yX3_meeting cX3_meeting 6 (some .int) { frames := 1, cells := 0, slots := 0, locals := 24 } F_OddArcs_meeting := kCon_of kEnds_I (by decide +kernel) (by decide) ⟨0, 0, 0, b_OddArcs_meeting⟩
noncomputable def s_OddArcs_ringArc : kSx :=
  (sSeq (sLet 0 3 (eCall 3 F_OddArcs_leastIn (eSnoc (eSnoc eNil (eR 0)) (eI 1))))
  (sSeq (sIf (cOr (cC 0 (eI 3) (eK (-1))) (cZ 0 (eI 2))) (sRet 0 (eI 3)) sSkip)
  (sSeq (sLet 0 4 (eAld 0 (eGet 10 1 (eGet 3 0 (eR 0))) (eI 3)))
  (sSeq (sLet 0 5 (eAld 0 (eGet 10 0 (eGet 3 0 (eR 0))) (eI 3)))
  (sSeq (sLet 0 6 (eAld 0 (eGet 8 5 (eGet 3 1 (eR 0))) (eCall 3 F_OddArcs_meeting (eSnoc (eSnoc (eSnoc eNil (eR 0)) (eI 4)) (eI 5)))))
  (sSeq (sLet 0 7 (eBin kSub (eAld 0 (eGet 8 5 (eGet 3 1 (eR 0))) (eI 4)) (eI 6)))
  (sSeq (sLet 0 8 (eBin kSub (eBin kAdd (eI 7) (eAld 0 (eGet 8 5 (eGet 3 1 (eR 0))) (eI 5))) (eI 6)))
  (sSeq (sIf (cC 4 (eI 2) (eI 8)) (sRet 0 (eK (-1))) sSkip)
  (sRet 0 (eAld 0 (eGet 8 4 (eGet 3 1 (eR 0))) (eIf (cC 5 (eI 2) (eI 7)) (eCall 3 F_OddArcs_climb (eSnoc (eSnoc (eSnoc eNil (eR 0)) (eI 4)) (eBin kSub (eI 2) (eK (1))))) (eCall 3 F_OddArcs_climb (eSnoc (eSnoc (eSnoc eNil (eR 0)) (eI 5)) (eBin kSub (eI 8) (eI 2)))))))))))))))
abbrev M_OddArcs_ringArc : kM := (cX3_ringArc, yX3_ringArc.cls, 9, { frames := 2, cells := 0, slots := 0, locals := 49 }, (some .int))
set_option maxRecDepth 20000 in
theorem b_OddArcs_ringArc : kSt M_OddArcs_ringArc 0 0 0 0 s_OddArcs_ringArc :=
  (kSt_seq (p1 := 6) (kSt_let (kE_call (kEs_snoc (kEs_snoc kEs_nil (kE_aload_0 dX3_ringArc_0)) (kE_iload_1 dX3_ringArc_1)) dX3_ringArc_2 c_OddArcs_leastIn mv_OddArcs_leastIn lm_RX3_65 ⟨rfl, rfl, by decide, by decide⟩ (by decide)) (kSet_istore_3 dX3_ringArc_5 (by decide)))
  (kSt_seq (p1 := 17) (kSt_if (kCd_or (kCd_C (kE_iload_3 dX3_ringArc_6) (kE_ic_m1 dX3_ringArc_7) (kJt_0 (tgt := 15) dX3_ringArc_8 (by decide))) (kCd_Z (kE_iload_2 dX3_ringArc_11) (kZf_0 (tgt := 17) dX3_ringArc_12 (by decide)))) (kSt_ret (tag := 0) (kE_iload_3 dX3_ringArc_15) ⟨fun _ => dX3_ringArc_16, fun q => (by cases q), fun q => (by cases q)⟩) kSt_skip)
  (kSt_seq (p1 := 28) (kSt_let (kE_iald (kE_get (kE_get (kE_aload_0 dX3_ringArc_17) lf_RX3_15 dX3_ringArc_18) lf_RX3_34 dX3_ringArc_21) (kE_iload_3 dX3_ringArc_24) dX3_ringArc_25) (kSet_istore dX3_ringArc_26 (by decide)))
  (kSt_seq (p1 := 39) (kSt_let (kE_iald (kE_get (kE_get (kE_aload_0 dX3_ringArc_28) lf_RX3_15 dX3_ringArc_29) lf_RX3_29 dX3_ringArc_32) (kE_iload_3 dX3_ringArc_35) dX3_ringArc_36) (kSet_istore dX3_ringArc_37 (by decide)))
  (kSt_seq (p1 := 57) (kSt_let (kE_iald (kE_get (kE_get (kE_aload_0 dX3_ringArc_39) lf_RX3_19 dX3_ringArc_40) lf_RX3_23 dX3_ringArc_43) (kE_call (kEs_snoc (kEs_snoc (kEs_snoc kEs_nil (kE_aload_0 dX3_ringArc_46)) (kE_iload dX3_ringArc_47)) (kE_iload dX3_ringArc_49)) dX3_ringArc_51 c_OddArcs_meeting mv_OddArcs_meeting lm_RX3_69 ⟨rfl, rfl, by decide, by decide⟩ (by decide)) dX3_ringArc_54) (kSet_istore dX3_ringArc_55 (by decide)))
  (kSt_seq (p1 := 72) (kSt_let (kE_bin (kE_iald (kE_get (kE_get (kE_aload_0 dX3_ringArc_57) lf_RX3_19 dX3_ringArc_58) lf_RX3_23 dX3_ringArc_61) (kE_iload dX3_ringArc_64) dX3_ringArc_66) (kE_iload dX3_ringArc_67) (kOp_sub dX3_ringArc_69)) (kSet_istore dX3_ringArc_70 (by decide)))
  (kSt_seq (p1 := 90) (kSt_let (kE_bin (kE_bin (kE_iload dX3_ringArc_72) (kE_iald (kE_get (kE_get (kE_aload_0 dX3_ringArc_74) lf_RX3_19 dX3_ringArc_75) lf_RX3_23 dX3_ringArc_78) (kE_iload dX3_ringArc_81) dX3_ringArc_83) (kOp_add dX3_ringArc_84)) (kE_iload dX3_ringArc_85) (kOp_sub dX3_ringArc_87)) (kSet_istore dX3_ringArc_88 (by decide)))
  (kSt_seq (p1 := 98) (kSt_if (kCd_C (kE_iload_2 dX3_ringArc_90) (kE_iload dX3_ringArc_91) (kJf_4 (tgt := 98) dX3_ringArc_93 (by decide))) (kSt_ret (tag := 0) (kE_ic_m1 dX3_ringArc_96) ⟨fun _ => dX3_ringArc_97, fun q => (by cases q), fun q => (by cases q)⟩) kSt_skip)
  (kSt_ret (tag := 0) (kE_iald (kE_get (kE_get (kE_aload_0 dX3_ringArc_98) lf_RX3_19 dX3_ringArc_99) lf_RX3_73 dX3_ringArc_102) (kE_if (kCd_C (kE_iload_2 dX3_ringArc_105) (kE_iload dX3_ringArc_106) (kJf_5 (tgt := 123) dX3_ringArc_108 (by decide))) (kE_goto (tgt := 133) (kE_call (kEs_snoc (kEs_snoc (kEs_snoc kEs_nil (kE_aload_0 dX3_ringArc_111)) (kE_iload dX3_ringArc_112)) (kE_bin (kE_iload_2 dX3_ringArc_114) (kE_ic_1 dX3_ringArc_115) (kOp_sub dX3_ringArc_116))) dX3_ringArc_117 c_OddArcs_climb mv_OddArcs_climb lm_RX3_76 ⟨rfl, rfl, by decide, by decide⟩ (by decide)) dX3_ringArc_120 (by decide)) (kE_call (kEs_snoc (kEs_snoc (kEs_snoc kEs_nil (kE_aload_0 dX3_ringArc_123)) (kE_iload dX3_ringArc_124)) (kE_bin (kE_iload dX3_ringArc_126) (kE_iload_2 dX3_ringArc_128) (kOp_sub dX3_ringArc_129))) dX3_ringArc_130 c_OddArcs_climb mv_OddArcs_climb lm_RX3_76 ⟨rfl, rfl, by decide, by decide⟩ (by decide))) dX3_ringArc_133) ⟨fun _ => dX3_ringArc_134, fun q => (by cases q), fun q => (by cases q)⟩)))))))))
noncomputable def F_OddArcs_ringArc : kFn := kF 3 kI s_OddArcs_ringArc
theorem c_OddArcs_ringArc : kCon yX3_ringArc cX3_ringArc 9 (some .int) { frames := 2, cells := 0, slots := 0, locals := 49 } F_OddArcs_ringArc := kCon_of kEnds_I (by decide +kernel) (by decide) ⟨0, 0, 0, b_OddArcs_ringArc⟩
noncomputable def l_Twice_topOf_1 : kSx := sFor 4 (cAnd (cC 2 (eI 3) (eK (300))) (cC 1 (eAld 0 (eGet 9 2 (eR 0)) (eI 2)) (eI 2)))
  (sSeq (sAst 0 (eGet 9 2 (eR 0)) (eI 2) (eAld 0 (eGet 9 2 (eR 0)) (eAld 0 (eGet 9 2 (eR 0)) (eI 2))))
  (sLet 0 2 (eAld 0 (eGet 9 2 (eR 0)) (eI 2))))
  (sInc 3 (1))
noncomputable def s_Twice_topOf : kSx :=
  (sSeq (sLet 0 2 (eI 1))
  (sSeq (sTrunc 3 (sSeq (sLet 0 3 (eK (0))) l_Twice_topOf_1))
  (sRet 0 (eI 2))))
abbrev M_Twice_topOf : kM := (cX9_topOf, yX9_topOf.cls, 4, { frames := 0, cells := 0, slots := 0, locals := 0 }, (some .int))
set_option maxRecDepth 20000 in
theorem b_Twice_topOf : kSt M_Twice_topOf 0 0 0 0 s_Twice_topOf :=
  (kSt_seq (p1 := 2) (kSt_let (kE_iload_1 dX9_topOf_0) (kSet_istore_2 dX9_topOf_1 (by decide)))
  (kSt_seq (p1 := 51) (kSt_trunc (kSt_seq (kSt_let (kE_ic_0 dX9_topOf_2) (kSet_istore_3 dX9_topOf_3 (by decide))) (kSt_for (pu := 45) (pt := 21) (kCd_and (kCd_C (kE_iload_3 dX9_topOf_4) (kE_sipush dX9_topOf_5 (by rfl) ⟨by decide, by decide⟩) (kJf_2 (tgt := 51) dX9_topOf_8 (by decide))) (kCd_C (kE_iald (kE_get (kE_aload_0 dX9_topOf_11) lf_RX9_9 dX9_topOf_12) (kE_iload_2 dX9_topOf_15) dX9_topOf_16) (kE_iload_2 dX9_topOf_17) (kJf_1 (tgt := 51) dX9_topOf_18 (by decide)))) (kSt_seq (p1 := 38) (kSt_iast (kE_get (kE_aload_0 dX9_topOf_21) lf_RX9_9 dX9_topOf_22) (kE_iload_2 dX9_topOf_25) (kE_iald (kE_get (kE_aload_0 dX9_topOf_26) lf_RX9_9 dX9_topOf_27) (kE_iald (kE_get (kE_aload_0 dX9_topOf_30) lf_RX9_9 dX9_topOf_31) (kE_iload_2 dX9_topOf_34) dX9_topOf_35) dX9_topOf_36) dX9_topOf_37)
  (kSt_let (kE_iald (kE_get (kE_aload_0 dX9_topOf_38) lf_RX9_9 dX9_topOf_39) (kE_iload_2 dX9_topOf_42) dX9_topOf_43) (kSet_istore_2 dX9_topOf_44 (by decide)))) (kSt_goto (tgt := 4) (kSt_inc dX9_topOf_45 (by decide)) dX9_topOf_48 (by decide)))))
  (kSt_ret (tag := 0) (kE_iload_2 dX9_topOf_51) ⟨fun _ => dX9_topOf_52, fun q => (by cases q), fun q => (by cases q)⟩)))
noncomputable def F_Twice_topOf : kFn := kF 2 kI s_Twice_topOf
theorem c_Twice_topOf : kCon yX9_topOf cX9_topOf 4 (some .int) { frames := 0, cells := 0, slots := 0, locals := 0 } F_Twice_topOf := kCon_of kEnds_I (by decide +kernel) (by decide) ⟨0, 0, 0, b_Twice_topOf⟩
noncomputable def l_Twice_tie_1 : kSx := sFor 6 (cAnd (cC 2 (eI 5) (eK (600))) (cC 1 (eI 3) (eI 4)))
  (sTrunc 6 (sSeq (sLet 0 6 (eIf (cC 3 (eAld 0 (eGet 8 5 (eGet 9 1 (eR 0))) (eI 3)) (eAld 0 (eGet 8 5 (eGet 9 1 (eR 0))) (eI 4))) (eI 3) (eI 4)))
  (sSeq (sLet 0 7 (eIf (cC 0 (eI 6) (eI 3)) (eI 4) (eI 3)))
  (sSeq (sLet 0 8 (eAld 0 (eGet 8 3 (eGet 9 1 (eR 0))) (eI 6)))
  (sSeq (sIf (cC 0 (eI 8) (eK (-1))) sRetV sSkip)
  (sSeq (sAst 0 (eGet 9 2 (eR 0)) (eI 6) (eI 8))
  (sSeq (sLet 0 3 (eCall 9 F_Twice_topOf (eSnoc (eSnoc eNil (eR 0)) (eI 8))))
  (sLet 0 4 (eI 7)))))))))
  (sInc 5 (1))
noncomputable def s_Twice_tie : kSx :=
  (sSeq (sSeq (sLet 0 3 (eCall 9 F_Twice_topOf (eSnoc (eSnoc eNil (eR 0)) (eI 1))))
  (sSeq (sLet 0 4 (eCall 9 F_Twice_topOf (eSnoc (eSnoc eNil (eR 0)) (eI 2))))
  (sTrunc 5 (sSeq (sLet 0 5 (eK (0))) l_Twice_tie_1)))) sRetV)
abbrev M_Twice_tie : kM := (cX9_tie, yX9_tie.cls, 9, { frames := 1, cells := 0, slots := 0, locals := 23 }, none)
set_option maxRecDepth 20000 in
theorem b_Twice_tie : kSt M_Twice_tie 0 0 0 0 s_Twice_tie :=
  (kSt_seq (kSt_seq (p1 := 6) (kSt_let (kE_call (kEs_snoc (kEs_snoc kEs_nil (kE_aload_0 dX9_tie_0)) (kE_iload_1 dX9_tie_1)) dX9_tie_2 c_Twice_topOf mv_Twice_topOf lm_RX9_26 ⟨rfl, rfl, by decide, by decide⟩ (by decide)) (kSet_istore_3 dX9_tie_5 (by decide)))
  (kSt_seq (p1 := 13) (kSt_let (kE_call (kEs_snoc (kEs_snoc kEs_nil (kE_aload_0 dX9_tie_6)) (kE_iload_2 dX9_tie_7)) dX9_tie_8 c_Twice_topOf mv_Twice_topOf lm_RX9_26 ⟨rfl, rfl, by decide, by decide⟩ (by decide)) (kSet_istore dX9_tie_11 (by decide)))
  (kSt_trunc (kSt_seq (kSt_let (kE_ic_0 dX9_tie_13) (kSet_istore dX9_tie_14 (by decide))) (kSt_for (pu := 113) (pt := 30) (kCd_and (kCd_C (kE_iload dX9_tie_16) (kE_sipush dX9_tie_18 (by rfl) ⟨by decide, by decide⟩) (kJf_2 (tgt := 119) dX9_tie_21 (by decide))) (kCd_C (kE_iload_3 dX9_tie_24) (kE_iload dX9_tie_25) (kJf_1 (tgt := 119) dX9_tie_27 (by decide)))) (kSt_trunc (kSt_seq (p1 := 60) (kSt_let (kE_if (kCd_C (kE_iald (kE_get (kE_get (kE_aload_0 dX9_tie_30) lf_RX9_19 dX9_tie_31) lf_RX9_70 dX9_tie_34) (kE_iload_3 dX9_tie_37) dX9_tie_38) (kE_iald (kE_get (kE_get (kE_aload_0 dX9_tie_39) lf_RX9_19 dX9_tie_40) lf_RX9_70 dX9_tie_43) (kE_iload dX9_tie_46) dX9_tie_48) (kJf_3 (tgt := 56) dX9_tie_49 (by decide))) (kE_goto (tgt := 58) (kE_iload_3 dX9_tie_52) dX9_tie_53 (by decide)) (kE_iload dX9_tie_56)) (kSet_istore dX9_tie_58 (by decide)))
  (kSt_seq (p1 := 74) (kSt_let (kE_if (kCd_C (kE_iload dX9_tie_60) (kE_iload_3 dX9_tie_62) (kJf_0 (tgt := 71) dX9_tie_63 (by decide))) (kE_goto (tgt := 72) (kE_iload dX9_tie_66) dX9_tie_68 (by decide)) (kE_iload_3 dX9_tie_71)) (kSet_istore dX9_tie_72 (by decide)))
  (kSt_seq (p1 := 86) (kSt_let (kE_iald (kE_get (kE_get (kE_aload_0 dX9_tie_74) lf_RX9_19 dX9_tie_75) lf_RX9_73 dX9_tie_78) (kE_iload dX9_tie_81) dX9_tie_83) (kSet_istore dX9_tie_84 (by decide)))
  (kSt_seq (p1 := 93) (kSt_if (kCd_C (kE_iload dX9_tie_86) (kE_ic_m1 dX9_tie_88) (kJf_0 (tgt := 93) dX9_tie_89 (by decide))) (kSt_retV dX9_tie_92) kSt_skip)
  (kSt_seq (p1 := 102) (kSt_iast (kE_get (kE_aload_0 dX9_tie_93) lf_RX9_9 dX9_tie_94) (kE_iload dX9_tie_97) (kE_iload dX9_tie_99) dX9_tie_101)
  (kSt_seq (p1 := 109) (kSt_let (kE_call (kEs_snoc (kEs_snoc kEs_nil (kE_aload_0 dX9_tie_102)) (kE_iload dX9_tie_103)) dX9_tie_105 c_Twice_topOf mv_Twice_topOf lm_RX9_26 ⟨rfl, rfl, by decide, by decide⟩ (by decide)) (kSet_istore_3 dX9_tie_108 (by decide)))
  (kSt_let (kE_iload dX9_tie_109) (kSet_istore dX9_tie_111 (by decide)))))))))) (kSt_goto (tgt := 16) (kSt_inc dX9_tie_113 (by decide)) dX9_tie_116 (by decide))))))) (kSt_retV dX9_tie_119))
noncomputable def F_Twice_tie : kFn := kF 3 kN s_Twice_tie
theorem c_Twice_tie : kCon yX9_tie cX9_tie 9 none { frames := 1, cells := 0, slots := 0, locals := 23 } F_Twice_tie := kCon_of kEnds_V (by decide +kernel) (by decide) ⟨0, 0, 0, b_Twice_tie⟩
noncomputable def l_Twice_look_1 : kSx := sFor 2 (cC 2 (eI 1) (eGet 10 3 (eGet 9 0 (eR 0))))
  (sAst 0 (eGet 9 2 (eR 0)) (eI 1) (eI 1))
  (sInc 1 (1))
noncomputable def l_Twice_look_2 : kSx := sFor 2 (cC 2 (eI 1) (eGet 10 4 (eGet 9 0 (eR 0))))
  (sTrunc 2 (sSeq (sLet 0 2 (eAld 0 (eGet 10 2 (eGet 9 0 (eR 0))) (eI 1)))
  (sIf (cNot (cZ 1 (eAld 1 (eGet 8 1 (eGet 9 1 (eR 0))) (eI 2)))) (sCall 9 F_Twice_tie (eSnoc (eSnoc (eSnoc eNil (eR 0)) (eAld 0 (eGet 10 0 (eGet 9 0 (eR 0))) (eI 2))) (eAld 0 (eGet 10 1 (eGet 9 0 (eR 0))) (eI 2)))) sSkip)))
  (sInc 1 (1))
noncomputable def s_Twice_look : kSx :=
  (sSeq (sSeq (sIf (cC 0 (eGet 9 3 (eR 0)) (eGet 10 5 (eGet 9 0 (eR 0)))) sRetV sSkip)
  (sSeq (sTrunc 1 (sSeq (sLet 0 1 (eK (0))) l_Twice_look_1))
  (sSeq (sTrunc 1 (sSeq (sLet 0 1 (eK (0))) l_Twice_look_2))
  (sPut 9 3 (eR 0) (eGet 10 5 (eGet 9 0 (eR 0))))))) sRetV)
abbrev M_Twice_look : kM := (cX9_look, yX9_look.cls, 3, { frames := 2, cells := 0, slots := 0, locals := 51 }, none)
set_option maxRecDepth 20000 in
theorem b_Twice_look : kSt M_Twice_look 0 0 0 0 s_Twice_look :=
  (kSt_seq (kSt_seq (p1 := 15) (kSt_if (kCd_C (kE_get (kE_aload_0 dX9_look_0) lf_RX9_59 dX9_look_1) (kE_get (kE_get (kE_aload_0 dX9_look_4) lf_RX9_15 dX9_look_5) lf_RX9_62 dX9_look_8) (kJf_0 (tgt := 15) dX9_look_11 (by decide))) (kSt_retV dX9_look_14) kSt_skip)
  (kSt_seq (p1 := 41) (kSt_trunc (kSt_seq (kSt_let (kE_ic_0 dX9_look_15) (kSet_istore_1 dX9_look_16 (by decide))) (kSt_for (pu := 35) (pt := 28) (kCd_C (kE_iload_1 dX9_look_17) (kE_get (kE_get (kE_aload_0 dX9_look_18) lf_RX9_15 dX9_look_19) lf_RX9_63 dX9_look_22) (kJf_2 (tgt := 41) dX9_look_25 (by decide))) (kSt_iast (kE_get (kE_aload_0 dX9_look_28) lf_RX9_9 dX9_look_29) (kE_iload_1 dX9_look_32) (kE_iload_1 dX9_look_33) dX9_look_34) (kSt_goto (tgt := 17) (kSt_inc dX9_look_35 (by decide)) dX9_look_38 (by decide)))))
  (kSt_seq (p1 := 104) (kSt_trunc (kSt_seq (kSt_let (kE_ic_0 dX9_look_41) (kSet_istore_1 dX9_look_42 (by decide))) (kSt_for (pu := 98) (pt := 54) (kCd_C (kE_iload_1 dX9_look_43) (kE_get (kE_get (kE_aload_0 dX9_look_44) lf_RX9_15 dX9_look_45) lf_RX9_48 dX9_look_48) (kJf_2 (tgt := 104) dX9_look_51 (by decide))) (kSt_trunc (kSt_seq (p1 := 64) (kSt_let (kE_iald (kE_get (kE_get (kE_aload_0 dX9_look_54) lf_RX9_15 dX9_look_55) lf_RX9_52 dX9_look_58) (kE_iload_1 dX9_look_61) dX9_look_62) (kSet_istore_2 dX9_look_63 (by decide)))
  (kSt_if (kCd_not (kCd_Z (kE_zald (kE_get (kE_get (kE_aload_0 dX9_look_64) lf_RX9_19 dX9_look_65) lf_RX9_30 dX9_look_68) (kE_iload_2 dX9_look_71) dX9_look_72) (kZt_1 (tgt := 98) dX9_look_73 (by decide)))) (kSt_call (kEs_snoc (kEs_snoc (kEs_snoc kEs_nil (kE_aload_0 dX9_look_76)) (kE_iald (kE_get (kE_get (kE_aload_0 dX9_look_77) lf_RX9_15 dX9_look_78) lf_RX9_36 dX9_look_81) (kE_iload_2 dX9_look_84) dX9_look_85)) (kE_iald (kE_get (kE_get (kE_aload_0 dX9_look_86) lf_RX9_15 dX9_look_87) lf_RX9_41 dX9_look_90) (kE_iload_2 dX9_look_93) dX9_look_94)) dX9_look_95 c_Twice_tie mv_Twice_tie lm_RX9_66 ⟨rfl, rfl, by decide, by decide⟩) kSt_skip))) (kSt_goto (tgt := 43) (kSt_inc dX9_look_98 (by decide)) dX9_look_101 (by decide)))))
  (kSt_put (kE_aload_0 dX9_look_104) (kE_get (kE_get (kE_aload_0 dX9_look_105) lf_RX9_15 dX9_look_106) lf_RX9_62 dX9_look_109) lp_RX9_59 dX9_look_112)))) (kSt_retV dX9_look_115))
noncomputable def F_Twice_look : kFn := kF 1 kN s_Twice_look
theorem c_Twice_look : kCon yX9_look cX9_look 3 none { frames := 2, cells := 0, slots := 0, locals := 51 } F_Twice_look := kCon_of kEnds_V (by decide +kernel) (by decide) ⟨0, 0, 0, b_Twice_look⟩
noncomputable def s_Twice_together : kSx :=
  (sSeq (sCall 9 F_Twice_look (eSnoc eNil (eR 0)))
  (sRet 0 (eIf (cC 0 (eCall 9 F_Twice_topOf (eSnoc (eSnoc eNil (eR 0)) (eI 1))) (eCall 9 F_Twice_topOf (eSnoc (eSnoc eNil (eR 0)) (eI 2)))) (eK (1)) (eK (0)))))
abbrev M_Twice_together : kM := (cX9_together, yX9_together.cls, 3, { frames := 3, cells := 0, slots := 0, locals := 73 }, (some .boolean))
set_option maxRecDepth 20000 in
theorem b_Twice_together : kSt M_Twice_together 0 0 0 0 s_Twice_together :=
  (kSt_seq (p1 := 4) (kSt_call (kEs_snoc kEs_nil (kE_aload_0 dX9_together_0)) dX9_together_1 c_Twice_look mv_Twice_look lm_RX9_23 ⟨rfl, rfl, by decide, by decide⟩)
  (kSt_ret (tag := 0) (kE_if (kCd_C (kE_call (kEs_snoc (kEs_snoc kEs_nil (kE_aload_0 dX9_together_4)) (kE_iload_1 dX9_together_5)) dX9_together_6 c_Twice_topOf mv_Twice_topOf lm_RX9_26 ⟨rfl, rfl, by decide, by decide⟩ (by decide)) (kE_call (kEs_snoc (kEs_snoc kEs_nil (kE_aload_0 dX9_together_9)) (kE_iload_2 dX9_together_10)) dX9_together_11 c_Twice_topOf mv_Twice_topOf lm_RX9_26 ⟨rfl, rfl, by decide, by decide⟩ (by decide)) (kJf_0 (tgt := 21) dX9_together_14 (by decide))) (kE_goto (tgt := 22) (kE_ic_1 dX9_together_17) dX9_together_18 (by decide)) (kE_ic_0 dX9_together_21)) ⟨fun _ => dX9_together_22, fun q => (by cases q), fun q => (by cases q)⟩))
noncomputable def F_Twice_together : kFn := kF 3 kZ s_Twice_together
theorem c_Twice_together : kCon yX9_together cX9_together 3 (some .boolean) { frames := 3, cells := 0, slots := 0, locals := 73 } F_Twice_together := kCon_of kEnds_Z (by decide +kernel) (by decide) ⟨0, 0, 0, b_Twice_together⟩
