noncomputable def l_Sides_peel_1 : kSx := sFor 4 (cC 2 (eI 3) (eGet 10 3 (eGet 6 0 (eR 0))))
  (sIf (cAnd (cC 0 (eAld 0 (eGet 6 3 (eR 0)) (eI 3)) (eK (-1))) (cC 2 (eAld 0 (eGet 6 5 (eR 0)) (eI 3)) (eI 1))) (sSeq (sAst 0 (eGet 6 3 (eR 0)) (eI 3) (eBin kSub (eI 1) (eK (1))))
  (sSeq (sAst 0 (eGet 6 6 (eR 0)) (eI 2) (eI 3))
  (sInc 2 (1)))) sSkip)
  (sInc 3 (1))
noncomputable def l_Sides_peel_2 : kSx := sFor 6 (cC 2 (eI 5) (eAld 0 (eGet 6 1 (eR 0)) (eBin kAdd (eI 4) (eK (1)))))
  (sTrunc 6 (sSeq (sLet 0 6 (eAld 0 (eGet 6 2 (eR 0)) (eI 5)))
  (sSeq (sAstOp (eGet 6 5 (eR 0)) (eI 6) kSub (eK (1)))
  (sIf (cAnd (cC 0 (eAld 0 (eGet 6 3 (eR 0)) (eI 6)) (eK (-1))) (cC 2 (eAld 0 (eGet 6 5 (eR 0)) (eI 6)) (eI 1))) (sSeq (sAst 0 (eGet 6 3 (eR 0)) (eI 6) (eBin kSub (eI 1) (eK (1))))
  (sSeq (sAst 0 (eGet 6 6 (eR 0)) (eI 2) (eI 6))
  (sInc 2 (1)))) sSkip))))
  (sInc 5 (1))
noncomputable def l_Sides_peel_3 : kSx := sFor 4 (cAnd (cC 2 (eI 3) (eK (300))) (cC 2 (eI 3) (eI 2)))
  (sTrunc 4 (sSeq (sLet 0 4 (eAld 0 (eGet 6 6 (eR 0)) (eI 3)))
  (sTrunc 5 (sSeq (sLet 0 5 (eAld 0 (eGet 6 1 (eR 0)) (eI 4))) l_Sides_peel_2))))
  (sInc 3 (1))
noncomputable def s_Sides_peel : kSx :=
  (sSeq (sLet 0 2 (eK (0)))
  (sSeq (sTrunc 3 (sSeq (sLet 0 3 (eK (0))) l_Sides_peel_1))
  (sSeq (sTrunc 3 (sSeq (sLet 0 3 (eK (0))) l_Sides_peel_3))
  (sRet 0 (eI 2)))))
abbrev M_Sides_peel : kM := (cX6_peel, yX6_peel.cls, 7, { frames := 0, cells := 0, slots := 0, locals := 0 }, (some .int))
set_option maxRecDepth 20000 in
theorem b_Sides_peel : kSt M_Sides_peel 0 0 0 0 s_Sides_peel :=
  (kSt_seq (p1 := 2) (kSt_let (kE_ic_0 dX6_peel_0) (kSet_istore_2 dX6_peel_1 (by decide)))
  (kSt_seq (p1 := 60) (kSt_trunc (kSt_seq (kSt_let (kE_ic_0 dX6_peel_2) (kSet_istore_3 dX6_peel_3 (by decide))) (kSt_for (pu := 54) (pt := 15) (kCd_C (kE_iload_3 dX6_peel_4) (kE_get (kE_get (kE_aload_0 dX6_peel_5) lf_RX6_30 dX6_peel_6) lf_RX6_37 dX6_peel_9) (kJf_2 (tgt := 60) dX6_peel_12 (by decide))) (kSt_if (kCd_and (kCd_C (kE_iald (kE_get (kE_aload_0 dX6_peel_15) lf_RX6_18 dX6_peel_16) (kE_iload_3 dX6_peel_19) dX6_peel_20) (kE_ic_m1 dX6_peel_21) (kJf_0 (tgt := 54) dX6_peel_22 (by decide))) (kCd_C (kE_iald (kE_get (kE_aload_0 dX6_peel_25) lf_RX6_24 dX6_peel_26) (kE_iload_3 dX6_peel_29) dX6_peel_30) (kE_iload_1 dX6_peel_31) (kJf_2 (tgt := 54) dX6_peel_32 (by decide)))) (kSt_seq (p1 := 44) (kSt_iast (kE_get (kE_aload_0 dX6_peel_35) lf_RX6_18 dX6_peel_36) (kE_iload_3 dX6_peel_39) (kE_bin (kE_iload_1 dX6_peel_40) (kE_ic_1 dX6_peel_41) (kOp_sub dX6_peel_42)) dX6_peel_43)
  (kSt_seq (p1 := 51) (kSt_iast (kE_get (kE_aload_0 dX6_peel_44) lf_RX6_27 dX6_peel_45) (kE_iload_2 dX6_peel_48) (kE_iload_3 dX6_peel_49) dX6_peel_50)
  (kSt_inc dX6_peel_51 (by decide)))) kSt_skip) (kSt_goto (tgt := 4) (kSt_inc dX6_peel_54 (by decide)) dX6_peel_57 (by decide)))))
  (kSt_seq (p1 := 180) (kSt_trunc (kSt_seq (kSt_let (kE_ic_0 dX6_peel_60) (kSet_istore_3 dX6_peel_61 (by decide))) (kSt_for (pu := 174) (pt := 74) (kCd_and (kCd_C (kE_iload_3 dX6_peel_62) (kE_sipush dX6_peel_63 (by rfl) ⟨by decide, by decide⟩) (kJf_2 (tgt := 180) dX6_peel_66 (by decide))) (kCd_C (kE_iload_3 dX6_peel_69) (kE_iload_2 dX6_peel_70) (kJf_2 (tgt := 180) dX6_peel_71 (by decide)))) (kSt_trunc (kSt_seq (p1 := 82) (kSt_let (kE_iald (kE_get (kE_aload_0 dX6_peel_74) lf_RX6_27 dX6_peel_75) (kE_iload_3 dX6_peel_78) dX6_peel_79) (kSet_istore dX6_peel_80 (by decide)))
  (kSt_trunc (kSt_seq (kSt_let (kE_iald (kE_get (kE_aload_0 dX6_peel_82) lf_RX6_9 dX6_peel_83) (kE_iload dX6_peel_86) dX6_peel_88) (kSet_istore dX6_peel_89 (by decide))) (kSt_for (pu := 168) (pt := 105) (kCd_C (kE_iload dX6_peel_91) (kE_iald (kE_get (kE_aload_0 dX6_peel_93) lf_RX6_9 dX6_peel_94) (kE_bin (kE_iload dX6_peel_97) (kE_ic_1 dX6_peel_99) (kOp_add dX6_peel_100)) dX6_peel_101) (kJf_2 (tgt := 174) dX6_peel_102 (by decide))) (kSt_trunc (kSt_seq (p1 := 114) (kSt_let (kE_iald (kE_get (kE_aload_0 dX6_peel_105) lf_RX6_15 dX6_peel_106) (kE_iload dX6_peel_109) dX6_peel_111) (kSet_istore dX6_peel_112 (by decide)))
  (kSt_seq (p1 := 125) (kSt_iastOp (kE_get (kE_aload_0 dX6_peel_114) lf_RX6_24 dX6_peel_115) (kE_iload dX6_peel_118) dX6_peel_120 dX6_peel_121 (kE_ic_1 dX6_peel_122) (kOp_sub dX6_peel_123) dX6_peel_124)
  (kSt_if (kCd_and (kCd_C (kE_iald (kE_get (kE_aload_0 dX6_peel_125) lf_RX6_18 dX6_peel_126) (kE_iload dX6_peel_129) dX6_peel_131) (kE_ic_m1 dX6_peel_132) (kJf_0 (tgt := 168) dX6_peel_133 (by decide))) (kCd_C (kE_iald (kE_get (kE_aload_0 dX6_peel_136) lf_RX6_24 dX6_peel_137) (kE_iload dX6_peel_140) dX6_peel_142) (kE_iload_1 dX6_peel_143) (kJf_2 (tgt := 168) dX6_peel_144 (by decide)))) (kSt_seq (p1 := 157) (kSt_iast (kE_get (kE_aload_0 dX6_peel_147) lf_RX6_18 dX6_peel_148) (kE_iload dX6_peel_151) (kE_bin (kE_iload_1 dX6_peel_153) (kE_ic_1 dX6_peel_154) (kOp_sub dX6_peel_155)) dX6_peel_156)
  (kSt_seq (p1 := 165) (kSt_iast (kE_get (kE_aload_0 dX6_peel_157) lf_RX6_27 dX6_peel_158) (kE_iload_2 dX6_peel_161) (kE_iload dX6_peel_162) dX6_peel_164)
  (kSt_inc dX6_peel_165 (by decide)))) kSt_skip)))) (kSt_goto (tgt := 91) (kSt_inc dX6_peel_168 (by decide)) dX6_peel_171 (by decide))))))) (kSt_goto (tgt := 62) (kSt_inc dX6_peel_174 (by decide)) dX6_peel_177 (by decide)))))
  (kSt_ret (tag := 0) (kE_iload_2 dX6_peel_180) ⟨fun _ => dX6_peel_181, fun q => (by cases q), fun q => (by cases q)⟩))))
noncomputable def F_Sides_peel : kFn := kF 2 kI s_Sides_peel
theorem c_Sides_peel : kCon yX6_peel cX6_peel 7 (some .int) { frames := 0, cells := 0, slots := 0, locals := 0 } F_Sides_peel := kCon_of kEnds_I (by decide +kernel) (by decide) ⟨0, 0, 0, b_Sides_peel⟩
noncomputable def l_Sides_findCores_1 : kSx := sFor 2 (cC 2 (eI 1) (eGet 10 3 (eGet 6 0 (eR 0))))
  (sSeq (sAst 0 (eGet 6 5 (eR 0)) (eI 1) (eBin kSub (eAld 0 (eGet 6 1 (eR 0)) (eBin kAdd (eI 1) (eK (1)))) (eAld 0 (eGet 6 1 (eR 0)) (eI 1))))
  (sAst 0 (eGet 6 3 (eR 0)) (eI 1) (eK (-1))))
  (sInc 1 (1))
noncomputable def l_Sides_findCores_2 : kSx := sFor 3 (cAnd (cC 5 (eI 2) (eK (300))) (cC 2 (eI 1) (eGet 10 3 (eGet 6 0 (eR 0)))))
  (sLet 0 1 (eBin kAdd (eI 1) (eCall 6 F_Sides_peel (eSnoc (eSnoc eNil (eR 0)) (eI 2)))))
  (sInc 2 (1))
noncomputable def s_Sides_findCores : kSx :=
  (sSeq (sSeq (sTrunc 1 (sSeq (sLet 0 1 (eK (0))) l_Sides_findCores_1))
  (sSeq (sLet 0 1 (eK (0)))
  (sTrunc 2 (sSeq (sLet 0 2 (eK (1))) l_Sides_findCores_2)))) sRetV)
abbrev M_Sides_findCores : kM := (cX6_findCores, yX6_findCores.cls, 3, { frames := 1, cells := 0, slots := 0, locals := 26 }, none)
set_option maxRecDepth 20000 in
theorem b_Sides_findCores : kSt M_Sides_findCores 0 0 0 0 s_Sides_findCores :=
  (kSt_seq (kSt_seq (p1 := 47) (kSt_trunc (kSt_seq (kSt_let (kE_ic_0 dX6_findCores_0) (kSet_istore_1 dX6_findCores_1 (by decide))) (kSt_for (pu := 41) (pt := 13) (kCd_C (kE_iload_1 dX6_findCores_2) (kE_get (kE_get (kE_aload_0 dX6_findCores_3) lf_RX6_30 dX6_findCores_4) lf_RX6_37 dX6_findCores_7) (kJf_2 (tgt := 47) dX6_findCores_10 (by decide))) (kSt_seq (p1 := 34) (kSt_iast (kE_get (kE_aload_0 dX6_findCores_13) lf_RX6_24 dX6_findCores_14) (kE_iload_1 dX6_findCores_17) (kE_bin (kE_iald (kE_get (kE_aload_0 dX6_findCores_18) lf_RX6_9 dX6_findCores_19) (kE_bin (kE_iload_1 dX6_findCores_22) (kE_ic_1 dX6_findCores_23) (kOp_add dX6_findCores_24)) dX6_findCores_25) (kE_iald (kE_get (kE_aload_0 dX6_findCores_26) lf_RX6_9 dX6_findCores_27) (kE_iload_1 dX6_findCores_30) dX6_findCores_31) (kOp_sub dX6_findCores_32)) dX6_findCores_33)
  (kSt_iast (kE_get (kE_aload_0 dX6_findCores_34) lf_RX6_18 dX6_findCores_35) (kE_iload_1 dX6_findCores_38) (kE_ic_m1 dX6_findCores_39) dX6_findCores_40)) (kSt_goto (tgt := 2) (kSt_inc dX6_findCores_41 (by decide)) dX6_findCores_44 (by decide)))))
  (kSt_seq (p1 := 49) (kSt_let (kE_ic_0 dX6_findCores_47) (kSet_istore_1 dX6_findCores_48 (by decide)))
  (kSt_trunc (kSt_seq (kSt_let (kE_ic_1 dX6_findCores_49) (kSet_istore_2 dX6_findCores_50 (by decide))) (kSt_for (pu := 77) (pt := 69) (kCd_and (kCd_C (kE_iload_2 dX6_findCores_51) (kE_sipush dX6_findCores_52 (by rfl) ⟨by decide, by decide⟩) (kJf_5 (tgt := 83) dX6_findCores_55 (by decide))) (kCd_C (kE_iload_1 dX6_findCores_58) (kE_get (kE_get (kE_aload_0 dX6_findCores_59) lf_RX6_30 dX6_findCores_60) lf_RX6_37 dX6_findCores_63) (kJf_2 (tgt := 83) dX6_findCores_66 (by decide)))) (kSt_let (kE_bin (kE_iload_1 dX6_findCores_69) (kE_call (kEs_snoc (kEs_snoc kEs_nil (kE_aload_0 dX6_findCores_70)) (kE_iload_2 dX6_findCores_71)) dX6_findCores_72 c_Sides_peel mv_Sides_peel lm_RX6_86 ⟨rfl, rfl, by decide, by decide⟩ (by decide)) (kOp_add dX6_findCores_75)) (kSet_istore_1 dX6_findCores_76 (by decide))) (kSt_goto (tgt := 51) (kSt_inc dX6_findCores_77 (by decide)) dX6_findCores_80 (by decide))))))) (kSt_retV dX6_findCores_83))
noncomputable def F_Sides_findCores : kFn := kF 1 kN s_Sides_findCores
theorem c_Sides_findCores : kCon yX6_findCores cX6_findCores 3 none { frames := 1, cells := 0, slots := 0, locals := 26 } F_Sides_findCores := kCon_of kEnds_V (by decide +kernel) (by decide) ⟨0, 0, 0, b_Sides_findCores⟩
noncomputable def l_Sides_markedBehind_1 : kSx := sFor 5 (cC 2 (eI 4) (eAld 0 (eGet 6 1 (eR 0)) (eBin kAdd (eI 1) (eK (1)))))
  (sIf (cAnd (cC 4 (eAld 0 (eGet 6 2 (eR 0)) (eI 4)) (eI 1)) (cC 0 (eAld 0 (eGet 6 4 (eR 0)) (eAld 0 (eGet 6 2 (eR 0)) (eI 4))) (eI 2))) (sInc 3 (1)) sSkip)
  (sInc 4 (1))
noncomputable def s_Sides_markedBehind : kSx :=
  (sSeq (sLet 0 3 (eK (0)))
  (sSeq (sTrunc 4 (sSeq (sLet 0 4 (eAld 0 (eGet 6 1 (eR 0)) (eI 1))) l_Sides_markedBehind_1))
  (sRet 0 (eI 3))))
abbrev M_Sides_markedBehind : kM := (cX6_markedBehind, yX6_markedBehind.cls, 5, { frames := 0, cells := 0, slots := 0, locals := 0 }, (some .int))
set_option maxRecDepth 20000 in
theorem b_Sides_markedBehind : kSt M_Sides_markedBehind 0 0 0 0 s_Sides_markedBehind :=
  (kSt_seq (p1 := 2) (kSt_let (kE_ic_0 dX6_markedBehind_0) (kSet_istore_3 dX6_markedBehind_1 (by decide)))
  (kSt_seq (p1 := 59) (kSt_trunc (kSt_seq (kSt_let (kE_iald (kE_get (kE_aload_0 dX6_markedBehind_2) lf_RX6_9 dX6_markedBehind_3) (kE_iload_1 dX6_markedBehind_6) dX6_markedBehind_7) (kSet_istore dX6_markedBehind_8 (by decide))) (kSt_for (pu := 53) (pt := 23) (kCd_C (kE_iload dX6_markedBehind_10) (kE_iald (kE_get (kE_aload_0 dX6_markedBehind_12) lf_RX6_9 dX6_markedBehind_13) (kE_bin (kE_iload_1 dX6_markedBehind_16) (kE_ic_1 dX6_markedBehind_17) (kOp_add dX6_markedBehind_18)) dX6_markedBehind_19) (kJf_2 (tgt := 59) dX6_markedBehind_20 (by decide))) (kSt_if (kCd_and (kCd_C (kE_iald (kE_get (kE_aload_0 dX6_markedBehind_23) lf_RX6_15 dX6_markedBehind_24) (kE_iload dX6_markedBehind_27) dX6_markedBehind_29) (kE_iload_1 dX6_markedBehind_30) (kJf_4 (tgt := 53) dX6_markedBehind_31 (by decide))) (kCd_C (kE_iald (kE_get (kE_aload_0 dX6_markedBehind_34) lf_RX6_21 dX6_markedBehind_35) (kE_iald (kE_get (kE_aload_0 dX6_markedBehind_38) lf_RX6_15 dX6_markedBehind_39) (kE_iload dX6_markedBehind_42) dX6_markedBehind_44) dX6_markedBehind_45) (kE_iload_2 dX6_markedBehind_46) (kJf_0 (tgt := 53) dX6_markedBehind_47 (by decide)))) (kSt_inc dX6_markedBehind_50 (by decide)) kSt_skip) (kSt_goto (tgt := 10) (kSt_inc dX6_markedBehind_53 (by decide)) dX6_markedBehind_56 (by decide)))))
  (kSt_ret (tag := 0) (kE_iload_3 dX6_markedBehind_59) ⟨fun _ => dX6_markedBehind_60, fun q => (by cases q), fun q => (by cases q)⟩)))
noncomputable def F_Sides_markedBehind : kFn := kF 3 kI s_Sides_markedBehind
theorem c_Sides_markedBehind : kCon yX6_markedBehind cX6_markedBehind 5 (some .int) { frames := 0, cells := 0, slots := 0, locals := 0 } F_Sides_markedBehind := kCon_of kEnds_I (by decide +kernel) (by decide) ⟨0, 0, 0, b_Sides_markedBehind⟩
noncomputable def l_Sides_countThrees_1 : kSx := sFor 5 (cC 2 (eI 4) (eAld 0 (eGet 6 1 (eR 0)) (eBin kAdd (eI 3) (eK (1)))))
  (sAst 0 (eGet 6 4 (eR 0)) (eAld 0 (eGet 6 2 (eR 0)) (eI 4)) (eI 3))
  (sInc 4 (1))
noncomputable def l_Sides_countThrees_2 : kSx := sFor 5 (cC 2 (eI 4) (eAld 0 (eGet 6 1 (eR 0)) (eBin kAdd (eI 3) (eK (1)))))
  (sIf (cC 4 (eAld 0 (eGet 6 2 (eR 0)) (eI 4)) (eI 3)) (sLet 2 1 (eLAdd (eJ 1) (eI2L (eCall 6 F_Sides_markedBehind (eSnoc (eSnoc (eSnoc eNil (eR 0)) (eAld 0 (eGet 6 2 (eR 0)) (eI 4))) (eI 3)))))) sSkip)
  (sInc 4 (1))
noncomputable def l_Sides_countThrees_3 : kSx := sFor 4 (cC 2 (eI 3) (eGet 10 3 (eGet 6 0 (eR 0))))
  (sSeq (sTrunc 4 (sSeq (sLet 0 4 (eAld 0 (eGet 6 1 (eR 0)) (eI 3))) l_Sides_countThrees_1))
  (sTrunc 4 (sSeq (sLet 0 4 (eAld 0 (eGet 6 1 (eR 0)) (eI 3))) l_Sides_countThrees_2)))
  (sInc 3 (1))
noncomputable def s_Sides_countThrees : kSx :=
  (sSeq (sCallS F_Ar_fill (eSnoc (eSnoc eNil (eGet 6 4 (eR 0))) (eK (-1))))
  (sSeq (sLet 2 1 (eKL (0)))
  (sSeq (sTrunc 3 (sSeq (sLet 0 3 (eK (0))) l_Sides_countThrees_3))
  (sRet 2 (eJ 1)))))
abbrev M_Sides_countThrees : kM := (cX6_countThrees, yX6_countThrees.cls, 5, { frames := 1, cells := 0, slots := 0, locals := 24 }, (some .long))
set_option maxRecDepth 20000 in
theorem b_Sides_countThrees : kSt M_Sides_countThrees 0 0 0 0 s_Sides_countThrees :=
  (kSt_seq (p1 := 8) (kSt_callS (kEs_snoc (kEs_snoc kEs_nil (kE_get (kE_aload_0 dX6_countThrees_0) lf_RX6_21 dX6_countThrees_1)) (kE_ic_m1 dX6_countThrees_4)) dX6_countThrees_5 c_Ar_fill mv_Ar_fill lm_RX6_70 ⟨rfl, rfl, by decide, by decide⟩)
  (kSt_seq (p1 := 10) (kSt_let (kE_lc_0 dX6_countThrees_8) (kSet_lstore_1 dX6_countThrees_9 (by decide)))
  (kSt_seq (p1 := 123) (kSt_trunc (kSt_seq (kSt_let (kE_ic_0 dX6_countThrees_10) (kSet_istore_3 dX6_countThrees_11 (by decide))) (kSt_for (pu := 117) (pt := 23) (kCd_C (kE_iload_3 dX6_countThrees_12) (kE_get (kE_get (kE_aload_0 dX6_countThrees_13) lf_RX6_30 dX6_countThrees_14) lf_RX6_37 dX6_countThrees_17) (kJf_2 (tgt := 123) dX6_countThrees_20 (by decide))) (kSt_seq (p1 := 63) (kSt_trunc (kSt_seq (kSt_let (kE_iald (kE_get (kE_aload_0 dX6_countThrees_23) lf_RX6_9 dX6_countThrees_24) (kE_iload_3 dX6_countThrees_27) dX6_countThrees_28) (kSet_istore dX6_countThrees_29 (by decide))) (kSt_for (pu := 57) (pt := 44) (kCd_C (kE_iload dX6_countThrees_31) (kE_iald (kE_get (kE_aload_0 dX6_countThrees_33) lf_RX6_9 dX6_countThrees_34) (kE_bin (kE_iload_3 dX6_countThrees_37) (kE_ic_1 dX6_countThrees_38) (kOp_add dX6_countThrees_39)) dX6_countThrees_40) (kJf_2 (tgt := 63) dX6_countThrees_41 (by decide))) (kSt_iast (kE_get (kE_aload_0 dX6_countThrees_44) lf_RX6_21 dX6_countThrees_45) (kE_iald (kE_get (kE_aload_0 dX6_countThrees_48) lf_RX6_15 dX6_countThrees_49) (kE_iload dX6_countThrees_52) dX6_countThrees_54) (kE_iload_3 dX6_countThrees_55) dX6_countThrees_56) (kSt_goto (tgt := 31) (kSt_inc dX6_countThrees_57 (by decide)) dX6_countThrees_60 (by decide)))))
  (kSt_trunc (kSt_seq (kSt_let (kE_iald (kE_get (kE_aload_0 dX6_countThrees_63) lf_RX6_9 dX6_countThrees_64) (kE_iload_3 dX6_countThrees_67) dX6_countThrees_68) (kSet_istore dX6_countThrees_69 (by decide))) (kSt_for (pu := 111) (pt := 84) (kCd_C (kE_iload dX6_countThrees_71) (kE_iald (kE_get (kE_aload_0 dX6_countThrees_73) lf_RX6_9 dX6_countThrees_74) (kE_bin (kE_iload_3 dX6_countThrees_77) (kE_ic_1 dX6_countThrees_78) (kOp_add dX6_countThrees_79)) dX6_countThrees_80) (kJf_2 (tgt := 117) dX6_countThrees_81 (by decide))) (kSt_if (kCd_C (kE_iald (kE_get (kE_aload_0 dX6_countThrees_84) lf_RX6_15 dX6_countThrees_85) (kE_iload dX6_countThrees_88) dX6_countThrees_90) (kE_iload_3 dX6_countThrees_91) (kJf_4 (tgt := 111) dX6_countThrees_92 (by decide))) (kSt_let (kE_ladd (kE_lload_1 dX6_countThrees_95) (kE_i2l (kE_call (kEs_snoc (kEs_snoc (kEs_snoc kEs_nil (kE_aload_0 dX6_countThrees_96)) (kE_iald (kE_get (kE_aload_0 dX6_countThrees_97) lf_RX6_15 dX6_countThrees_98) (kE_iload dX6_countThrees_101) dX6_countThrees_103)) (kE_iload_3 dX6_countThrees_104)) dX6_countThrees_105 c_Sides_markedBehind mv_Sides_markedBehind lm_RX6_89 ⟨rfl, rfl, by decide, by decide⟩ (by decide)) dX6_countThrees_108) dX6_countThrees_109) (kSet_lstore_1 dX6_countThrees_110 (by decide))) kSt_skip) (kSt_goto (tgt := 71) (kSt_inc dX6_countThrees_111 (by decide)) dX6_countThrees_114 (by decide)))))) (kSt_goto (tgt := 12) (kSt_inc dX6_countThrees_117 (by decide)) dX6_countThrees_120 (by decide)))))
  (kSt_ret (tag := 2) (kE_lload_1 dX6_countThrees_123) ⟨fun q => (by cases q), fun q => (by cases q), fun _ => dX6_countThrees_124⟩))))
noncomputable def F_Sides_countThrees : kFn := kF 1 kJl s_Sides_countThrees
theorem c_Sides_countThrees : kCon yX6_countThrees cX6_countThrees 5 (some .long) { frames := 1, cells := 0, slots := 0, locals := 24 } F_Sides_countThrees := kCon_of kEnds_J (by decide +kernel) (by decide) ⟨0, 0, 0, b_Sides_countThrees⟩
noncomputable def s_Sides_renew : kSx :=
  (sSeq (sSeq (sCall 6 F_Sides_findNear (eSnoc eNil (eR 0)))
  (sSeq (sCall 6 F_Sides_findCores (eSnoc eNil (eR 0)))
  (sSeq (sPut 6 7 (eR 0) (eCall 6 F_Sides_countThrees (eSnoc eNil (eR 0))))
  (sPut 6 8 (eR 0) (eGet 10 5 (eGet 6 0 (eR 0))))))) sRetV)
abbrev M_Sides_renew : kM := (cX6_renew, yX6_renew.cls, 1, { frames := 2, cells := 0, slots := 0, locals := 48 }, none)
set_option maxRecDepth 20000 in
theorem b_Sides_renew : kSt M_Sides_renew 0 0 0 0 s_Sides_renew :=
  (kSt_seq (kSt_seq (p1 := 4) (kSt_call (kEs_snoc kEs_nil (kE_aload_0 dX6_renew_0)) dX6_renew_1 c_Sides_findNear mv_Sides_findNear lm_RX6_60 ⟨rfl, rfl, by decide, by decide⟩)
  (kSt_seq (p1 := 8) (kSt_call (kEs_snoc kEs_nil (kE_aload_0 dX6_renew_4)) dX6_renew_5 c_Sides_findCores mv_Sides_findCores lm_RX6_63 ⟨rfl, rfl, by decide, by decide⟩)
  (kSt_seq (p1 := 16) (kSt_put (kE_aload_0 dX6_renew_8) (kE_call (kEs_snoc kEs_nil (kE_aload_0 dX6_renew_9)) dX6_renew_10 c_Sides_countThrees mv_Sides_countThrees lm_RX6_66 ⟨rfl, rfl, by decide, by decide⟩ (by decide)) lp_RX6_49 dX6_renew_13)
  (kSt_put (kE_aload_0 dX6_renew_16) (kE_get (kE_get (kE_aload_0 dX6_renew_17) lf_RX6_30 dX6_renew_18) lf_RX6_59 dX6_renew_21) lp_RX6_56 dX6_renew_24)))) (kSt_retV dX6_renew_27))
noncomputable def F_Sides_renew : kFn := kF 1 kN s_Sides_renew
theorem c_Sides_renew : kCon yX6_renew cX6_renew 1 none { frames := 2, cells := 0, slots := 0, locals := 48 } F_Sides_renew := kCon_of kEnds_V (by decide +kernel) (by decide) ⟨0, 0, 0, b_Sides_renew⟩
noncomputable def s_Sides_look : kSx :=
  (sSeq (sIf (cC 1 (eGet 6 8 (eR 0)) (eGet 10 5 (eGet 6 0 (eR 0)))) (sCall 6 F_Sides_renew (eSnoc eNil (eR 0))) sSkip) sRetV)
abbrev M_Sides_look : kM := (cX6_look, yX6_look.cls, 1, { frames := 3, cells := 0, slots := 0, locals := 68 }, none)
set_option maxRecDepth 20000 in
theorem b_Sides_look : kSt M_Sides_look 0 0 0 0 s_Sides_look :=
  (kSt_seq (kSt_if (kCd_C (kE_get (kE_aload_0 dX6_look_0) lf_RX6_56 dX6_look_1) (kE_get (kE_get (kE_aload_0 dX6_look_4) lf_RX6_30 dX6_look_5) lf_RX6_59 dX6_look_8) (kJf_1 (tgt := 18) dX6_look_11 (by decide))) (kSt_call (kEs_snoc kEs_nil (kE_aload_0 dX6_look_14)) dX6_look_15 c_Sides_renew mv_Sides_renew lm_RX6_53 ⟨rfl, rfl, by decide, by decide⟩) kSt_skip) (kSt_retV dX6_look_18))
noncomputable def F_Sides_look : kFn := kF 1 kN s_Sides_look
theorem c_Sides_look : kCon yX6_look cX6_look 1 none { frames := 3, cells := 0, slots := 0, locals := 68 } F_Sides_look := kCon_of kEnds_V (by decide +kernel) (by decide) ⟨0, 0, 0, b_Sides_look⟩
noncomputable def s_Sides_countOf : kSx :=
  (sSeq (sCall 6 F_Sides_look (eSnoc eNil (eR 0)))
  (sRet 0 (eBin kSub (eAld 0 (eGet 6 1 (eR 0)) (eBin kAdd (eI 1) (eK (1)))) (eAld 0 (eGet 6 1 (eR 0)) (eI 1)))))
abbrev M_Sides_countOf : kM := (cX6_countOf, yX6_countOf.cls, 2, { frames := 4, cells := 0, slots := 0, locals := 88 }, (some .int))
set_option maxRecDepth 20000 in
theorem b_Sides_countOf : kSt M_Sides_countOf 0 0 0 0 s_Sides_countOf :=
  (kSt_seq (p1 := 4) (kSt_call (kEs_snoc kEs_nil (kE_aload_0 dX6_countOf_0)) dX6_countOf_1 c_Sides_look mv_Sides_look lm_RX6_34 ⟨rfl, rfl, by decide, by decide⟩)
  (kSt_ret (tag := 0) (kE_bin (kE_iald (kE_get (kE_aload_0 dX6_countOf_4) lf_RX6_9 dX6_countOf_5) (kE_bin (kE_iload_1 dX6_countOf_8) (kE_ic_1 dX6_countOf_9) (kOp_add dX6_countOf_10)) dX6_countOf_11) (kE_iald (kE_get (kE_aload_0 dX6_countOf_12) lf_RX6_9 dX6_countOf_13) (kE_iload_1 dX6_countOf_16) dX6_countOf_17) (kOp_sub dX6_countOf_18)) ⟨fun _ => dX6_countOf_19, fun q => (by cases q), fun q => (by cases q)⟩))
noncomputable def F_Sides_countOf : kFn := kF 2 kI s_Sides_countOf
theorem c_Sides_countOf : kCon yX6_countOf cX6_countOf 2 (some .int) { frames := 4, cells := 0, slots := 0, locals := 88 } F_Sides_countOf := kCon_of kEnds_I (by decide +kernel) (by decide) ⟨0, 0, 0, b_Sides_countOf⟩
noncomputable def s_Sides_coreOf : kSx :=
  (sSeq (sCall 6 F_Sides_look (eSnoc eNil (eR 0)))
  (sRet 0 (eAld 0 (eGet 6 3 (eR 0)) (eI 1))))
abbrev M_Sides_coreOf : kM := (cX6_coreOf, yX6_coreOf.cls, 2, { frames := 4, cells := 0, slots := 0, locals := 88 }, (some .int))
set_option maxRecDepth 20000 in
theorem b_Sides_coreOf : kSt M_Sides_coreOf 0 0 0 0 s_Sides_coreOf :=
  (kSt_seq (p1 := 4) (kSt_call (kEs_snoc kEs_nil (kE_aload_0 dX6_coreOf_0)) dX6_coreOf_1 c_Sides_look mv_Sides_look lm_RX6_34 ⟨rfl, rfl, by decide, by decide⟩)
  (kSt_ret (tag := 0) (kE_iald (kE_get (kE_aload_0 dX6_coreOf_4) lf_RX6_18 dX6_coreOf_5) (kE_iload_1 dX6_coreOf_8) dX6_coreOf_9) ⟨fun _ => dX6_coreOf_10, fun q => (by cases q), fun q => (by cases q)⟩))
noncomputable def F_Sides_coreOf : kFn := kF 2 kI s_Sides_coreOf
theorem c_Sides_coreOf : kCon yX6_coreOf cX6_coreOf 2 (some .int) { frames := 4, cells := 0, slots := 0, locals := 88 } F_Sides_coreOf := kCon_of kEnds_I (by decide +kernel) (by decide) ⟨0, 0, 0, b_Sides_coreOf⟩
noncomputable def l_Sides_greatestCore_1 : kSx := sFor 3 (cC 2 (eI 2) (eGet 10 3 (eGet 6 0 (eR 0))))
  (sLet 0 1 (eMax (eI 1) (eAld 0 (eGet 6 3 (eR 0)) (eI 2))))
  (sInc 2 (1))
noncomputable def s_Sides_greatestCore : kSx :=
  (sSeq (sCall 6 F_Sides_look (eSnoc eNil (eR 0)))
  (sSeq (sLet 0 1 (eK (0)))
  (sSeq (sTrunc 2 (sSeq (sLet 0 2 (eK (0))) l_Sides_greatestCore_1))
  (sRet 0 (eI 1)))))
abbrev M_Sides_greatestCore : kM := (cX6_greatestCore, yX6_greatestCore.cls, 3, { frames := 4, cells := 0, slots := 0, locals := 88 }, (some .int))
set_option maxRecDepth 20000 in
theorem b_Sides_greatestCore : kSt M_Sides_greatestCore 0 0 0 0 s_Sides_greatestCore :=
  (kSt_seq (p1 := 4) (kSt_call (kEs_snoc kEs_nil (kE_aload_0 dX6_greatestCore_0)) dX6_greatestCore_1 c_Sides_look mv_Sides_look lm_RX6_34 ⟨rfl, rfl, by decide, by decide⟩)
  (kSt_seq (p1 := 6) (kSt_let (kE_ic_0 dX6_greatestCore_4) (kSet_istore_1 dX6_greatestCore_5 (by decide)))
  (kSt_seq (p1 := 36) (kSt_trunc (kSt_seq (kSt_let (kE_ic_0 dX6_greatestCore_6) (kSet_istore_2 dX6_greatestCore_7 (by decide))) (kSt_for (pu := 30) (pt := 19) (kCd_C (kE_iload_2 dX6_greatestCore_8) (kE_get (kE_get (kE_aload_0 dX6_greatestCore_9) lf_RX6_30 dX6_greatestCore_10) lf_RX6_37 dX6_greatestCore_13) (kJf_2 (tgt := 36) dX6_greatestCore_16 (by decide))) (kSt_let (kE_max (kE_iload_1 dX6_greatestCore_19) (kE_iald (kE_get (kE_aload_0 dX6_greatestCore_20) lf_RX6_18 dX6_greatestCore_21) (kE_iload_2 dX6_greatestCore_24) dX6_greatestCore_25) dX6_greatestCore_26 lM_RX6_43 mw_max ⟨by decide, by decide⟩ (by decide)) (kSet_istore_1 dX6_greatestCore_29 (by decide))) (kSt_goto (tgt := 8) (kSt_inc dX6_greatestCore_30 (by decide)) dX6_greatestCore_33 (by decide)))))
  (kSt_ret (tag := 0) (kE_iload_1 dX6_greatestCore_36) ⟨fun _ => dX6_greatestCore_37, fun q => (by cases q), fun q => (by cases q)⟩))))
noncomputable def F_Sides_greatestCore : kFn := kF 1 kI s_Sides_greatestCore
theorem c_Sides_greatestCore : kCon yX6_greatestCore cX6_greatestCore 3 (some .int) { frames := 4, cells := 0, slots := 0, locals := 88 } F_Sides_greatestCore := kCon_of kEnds_I (by decide +kernel) (by decide) ⟨0, 0, 0, b_Sides_greatestCore⟩
noncomputable def s_Sides_countedThrees : kSx :=
  (sSeq (sCall 6 F_Sides_look (eSnoc eNil (eR 0)))
  (sRet 2 (eGet 6 7 (eR 0))))
abbrev M_Sides_countedThrees : kM := (cX6_countedThrees, yX6_countedThrees.cls, 1, { frames := 4, cells := 0, slots := 0, locals := 88 }, (some .long))
set_option maxRecDepth 20000 in
theorem b_Sides_countedThrees : kSt M_Sides_countedThrees 0 0 0 0 s_Sides_countedThrees :=
  (kSt_seq (p1 := 4) (kSt_call (kEs_snoc kEs_nil (kE_aload_0 dX6_countedThrees_0)) dX6_countedThrees_1 c_Sides_look mv_Sides_look lm_RX6_34 ⟨rfl, rfl, by decide, by decide⟩)
  (kSt_ret (tag := 2) (kE_get (kE_aload_0 dX6_countedThrees_4) lf_RX6_49 dX6_countedThrees_5) ⟨fun q => (by cases q), fun q => (by cases q), fun _ => dX6_countedThrees_8⟩))
noncomputable def F_Sides_countedThrees : kFn := kF 1 kJl s_Sides_countedThrees
theorem c_Sides_countedThrees : kCon yX6_countedThrees cX6_countedThrees 1 (some .long) { frames := 4, cells := 0, slots := 0, locals := 88 } F_Sides_countedThrees := kCon_of kEnds_J (by decide +kernel) (by decide) ⟨0, 0, 0, b_Sides_countedThrees⟩
noncomputable def l_Sides_holds_1 : kSx := sFor 3 (cC 2 (eI 2) (eGet 10 3 (eGet 6 0 (eR 0))))
  (sIf (cOr (cC 1 (eAld 0 (eGet 6 1 (eR 0)) (eBin kAdd (eI 2) (eK (1)))) (eAld 0 (eGet 6 1 (eR 1)) (eBin kAdd (eI 2) (eK (1))))) (cC 1 (eAld 0 (eGet 6 3 (eR 0)) (eI 2)) (eAld 0 (eGet 6 3 (eR 1)) (eI 2)))) (sRet 0 (eK (0))) sSkip)
  (sInc 2 (1))
noncomputable def s_Sides_holds : kSx :=
  (sSeq (sCall 6 F_Sides_look (eSnoc eNil (eR 0)))
  (sSeq (sCall 6 F_Sides_renew (eSnoc eNil (eR 1)))
  (sSeq (sTrunc 2 (sSeq (sLet 0 2 (eK (0))) l_Sides_holds_1))
  (sRet 0 (eIf (cL 0 (eGet 6 7 (eR 0)) (eGet 6 7 (eR 1))) (eK (1)) (eK (0)))))))
abbrev M_Sides_holds : kM := (cX6_holds, yX6_holds.cls, 3, { frames := 4, cells := 0, slots := 0, locals := 88 }, (some .boolean))
set_option maxRecDepth 20000 in
theorem b_Sides_holds : kSt M_Sides_holds 0 0 0 0 s_Sides_holds :=
  (kSt_seq (p1 := 4) (kSt_call (kEs_snoc kEs_nil (kE_aload_0 dX6_holds_0)) dX6_holds_1 c_Sides_look mv_Sides_look lm_RX6_34 ⟨rfl, rfl, by decide, by decide⟩)
  (kSt_seq (p1 := 8) (kSt_call (kEs_snoc kEs_nil (kE_aload_1 dX6_holds_4)) dX6_holds_5 c_Sides_renew mv_Sides_renew lm_RX6_53 ⟨rfl, rfl, by decide, by decide⟩)
  (kSt_seq (p1 := 63) (kSt_trunc (kSt_seq (kSt_let (kE_ic_0 dX6_holds_8) (kSet_istore_2 dX6_holds_9 (by decide))) (kSt_for (pu := 57) (pt := 21) (kCd_C (kE_iload_2 dX6_holds_10) (kE_get (kE_get (kE_aload_0 dX6_holds_11) lf_RX6_30 dX6_holds_12) lf_RX6_37 dX6_holds_15) (kJf_2 (tgt := 63) dX6_holds_18 (by decide))) (kSt_if (kCd_or (kCd_C (kE_iald (kE_get (kE_aload_0 dX6_holds_21) lf_RX6_9 dX6_holds_22) (kE_bin (kE_iload_2 dX6_holds_25) (kE_ic_1 dX6_holds_26) (kOp_add dX6_holds_27)) dX6_holds_28) (kE_iald (kE_get (kE_aload_1 dX6_holds_29) lf_RX6_9 dX6_holds_30) (kE_bin (kE_iload_2 dX6_holds_33) (kE_ic_1 dX6_holds_34) (kOp_add dX6_holds_35)) dX6_holds_36) (kJt_1 (tgt := 55) dX6_holds_37 (by decide))) (kCd_C (kE_iald (kE_get (kE_aload_0 dX6_holds_40) lf_RX6_18 dX6_holds_41) (kE_iload_2 dX6_holds_44) dX6_holds_45) (kE_iald (kE_get (kE_aload_1 dX6_holds_46) lf_RX6_18 dX6_holds_47) (kE_iload_2 dX6_holds_50) dX6_holds_51) (kJf_1 (tgt := 57) dX6_holds_52 (by decide)))) (kSt_ret (tag := 0) (kE_ic_0 dX6_holds_55) ⟨fun _ => dX6_holds_56, fun q => (by cases q), fun q => (by cases q)⟩) kSt_skip) (kSt_goto (tgt := 10) (kSt_inc dX6_holds_57 (by decide)) dX6_holds_60 (by decide)))))
  (kSt_ret (tag := 0) (kE_if (kCd_L (kE_get (kE_aload_0 dX6_holds_63) lf_RX6_49 dX6_holds_64) (kE_get (kE_aload_1 dX6_holds_67) lf_RX6_49 dX6_holds_68) dX6_holds_71 (kZf_0 (tgt := 79) dX6_holds_72 (by decide))) (kE_goto (tgt := 80) (kE_ic_1 dX6_holds_75) dX6_holds_76 (by decide)) (kE_ic_0 dX6_holds_79)) ⟨fun _ => dX6_holds_80, fun q => (by cases q), fun q => (by cases q)⟩))))
noncomputable def F_Sides_holds : kFn := kF 2 kZ s_Sides_holds
theorem c_Sides_holds : kCon yX6_holds cX6_holds 3 (some .boolean) { frames := 4, cells := 0, slots := 0, locals := 88 } F_Sides_holds := kCon_of kEnds_Z (by decide +kernel) (by decide) ⟨0, 0, 0, b_Sides_holds⟩
noncomputable def s_Chosen_weightOf : kSx :=
  (sRet 0 (eAld 0 (eGet 0 1 (eR 0)) (eI 1)))
abbrev M_Chosen_weightOf : kM := (cX0_weightOf, yX0_weightOf.cls, 2, { frames := 0, cells := 0, slots := 0, locals := 0 }, (some .int))
set_option maxRecDepth 20000 in
theorem b_Chosen_weightOf : kSt M_Chosen_weightOf 0 0 0 0 s_Chosen_weightOf :=
  (kSt_ret (tag := 0) (kE_iald (kE_get (kE_aload_0 dX0_weightOf_0) lf_RX0_9 dX0_weightOf_1) (kE_iload_1 dX0_weightOf_4) dX0_weightOf_5) ⟨fun _ => dX0_weightOf_6, fun q => (by cases q), fun q => (by cases q)⟩)
noncomputable def F_Chosen_weightOf : kFn := kF 2 kI s_Chosen_weightOf
theorem c_Chosen_weightOf : kCon yX0_weightOf cX0_weightOf 2 (some .int) { frames := 0, cells := 0, slots := 0, locals := 0 } F_Chosen_weightOf := kCon_of kEnds_I (by decide +kernel) (by decide) ⟨0, 0, 0, b_Chosen_weightOf⟩
noncomputable def s_Chosen_has : kSx :=
  (sRet 0 (eAld 1 (eGet 0 3 (eR 0)) (eI 1)))
abbrev M_Chosen_has : kM := (cX0_has, yX0_has.cls, 2, { frames := 0, cells := 0, slots := 0, locals := 0 }, (some .boolean))
set_option maxRecDepth 20000 in
theorem b_Chosen_has : kSt M_Chosen_has 0 0 0 0 s_Chosen_has :=
  (kSt_ret (tag := 0) (kE_zald (kE_get (kE_aload_0 dX0_has_0) lf_RX0_18 dX0_has_1) (kE_iload_1 dX0_has_4) dX0_has_5) ⟨fun _ => dX0_has_6, fun q => (by cases q), fun q => (by cases q)⟩)
noncomputable def F_Chosen_has : kFn := kF 2 kZ s_Chosen_has
theorem c_Chosen_has : kCon yX0_has cX0_has 2 (some .boolean) { frames := 0, cells := 0, slots := 0, locals := 0 } F_Chosen_has := kCon_of kEnds_Z (by decide +kernel) (by decide) ⟨0, 0, 0, b_Chosen_has⟩
noncomputable def l_Chosen_size_1 : kSx := sFor 3 (cC 2 (eI 2) (eGet 10 3 (eGet 0 0 (eR 0))))
  (sIf (cZ 1 (eAld 1 (eGet 0 3 (eR 0)) (eI 2))) (sInc 1 (1)) sSkip)
  (sInc 2 (1))
noncomputable def s_Chosen_size : kSx :=
  (sSeq (sLet 0 1 (eK (0)))
  (sSeq (sTrunc 2 (sSeq (sLet 0 2 (eK (0))) l_Chosen_size_1))
  (sRet 0 (eI 1))))
abbrev M_Chosen_size : kM := (cX0_size, yX0_size.cls, 3, { frames := 0, cells := 0, slots := 0, locals := 0 }, (some .int))
set_option maxRecDepth 20000 in
theorem b_Chosen_size : kSt M_Chosen_size 0 0 0 0 s_Chosen_size :=
  (kSt_seq (p1 := 2) (kSt_let (kE_ic_0 dX0_size_0) (kSet_istore_1 dX0_size_1 (by decide)))
  (kSt_seq (p1 := 33) (kSt_trunc (kSt_seq (kSt_let (kE_ic_0 dX0_size_2) (kSet_istore_2 dX0_size_3 (by decide))) (kSt_for (pu := 27) (pt := 15) (kCd_C (kE_iload_2 dX0_size_4) (kE_get (kE_get (kE_aload_0 dX0_size_5) lf_RX0_22 dX0_size_6) lf_RX0_26 dX0_size_9) (kJf_2 (tgt := 33) dX0_size_12 (by decide))) (kSt_if (kCd_Z (kE_zald (kE_get (kE_aload_0 dX0_size_15) lf_RX0_18 dX0_size_16) (kE_iload_2 dX0_size_19) dX0_size_20) (kZf_1 (tgt := 27) dX0_size_21 (by decide))) (kSt_inc dX0_size_24 (by decide)) kSt_skip) (kSt_goto (tgt := 4) (kSt_inc dX0_size_27 (by decide)) dX0_size_30 (by decide)))))
  (kSt_ret (tag := 0) (kE_iload_1 dX0_size_33) ⟨fun _ => dX0_size_34, fun q => (by cases q), fun q => (by cases q)⟩)))
noncomputable def F_Chosen_size : kFn := kF 1 kI s_Chosen_size
theorem c_Chosen_size : kCon yX0_size cX0_size 3 (some .int) { frames := 0, cells := 0, slots := 0, locals := 0 } F_Chosen_size := kCon_of kEnds_I (by decide +kernel) (by decide) ⟨0, 0, 0, b_Chosen_size⟩
noncomputable def s_Chosen_isAhead : kSx :=
  (sRet 0 (eIf (cOr (cC 4 (eAld 0 (eGet 0 1 (eR 0)) (eI 1)) (eAld 0 (eGet 0 1 (eR 0)) (eI 2))) (cAnd (cC 0 (eAld 0 (eGet 0 1 (eR 0)) (eI 1)) (eAld 0 (eGet 0 1 (eR 0)) (eI 2))) (cC 2 (eI 1) (eI 2)))) (eK (1)) (eK (0))))
abbrev M_Chosen_isAhead : kM := (cX0_isAhead, yX0_isAhead.cls, 3, { frames := 0, cells := 0, slots := 0, locals := 0 }, (some .boolean))
set_option maxRecDepth 20000 in
theorem b_Chosen_isAhead : kSt M_Chosen_isAhead 0 0 0 0 s_Chosen_isAhead :=
  (kSt_ret (tag := 0) (kE_if (kCd_or (kCd_C (kE_iald (kE_get (kE_aload_0 dX0_isAhead_0) lf_RX0_9 dX0_isAhead_1) (kE_iload_1 dX0_isAhead_4) dX0_isAhead_5) (kE_iald (kE_get (kE_aload_0 dX0_isAhead_6) lf_RX0_9 dX0_isAhead_7) (kE_iload_2 dX0_isAhead_10) dX0_isAhead_11) (kJt_4 (tgt := 35) dX0_isAhead_12 (by decide))) (kCd_and (kCd_C (kE_iald (kE_get (kE_aload_0 dX0_isAhead_15) lf_RX0_9 dX0_isAhead_16) (kE_iload_1 dX0_isAhead_19) dX0_isAhead_20) (kE_iald (kE_get (kE_aload_0 dX0_isAhead_21) lf_RX0_9 dX0_isAhead_22) (kE_iload_2 dX0_isAhead_25) dX0_isAhead_26) (kJf_0 (tgt := 39) dX0_isAhead_27 (by decide))) (kCd_C (kE_iload_1 dX0_isAhead_30) (kE_iload_2 dX0_isAhead_31) (kJf_2 (tgt := 39) dX0_isAhead_32 (by decide))))) (kE_goto (tgt := 40) (kE_ic_1 dX0_isAhead_35) dX0_isAhead_36 (by decide)) (kE_ic_0 dX0_isAhead_39)) ⟨fun _ => dX0_isAhead_40, fun q => (by cases q), fun q => (by cases q)⟩)
noncomputable def F_Chosen_isAhead : kFn := kF 3 kZ s_Chosen_isAhead
theorem c_Chosen_isAhead : kCon yX0_isAhead cX0_isAhead 3 (some .boolean) { frames := 0, cells := 0, slots := 0, locals := 0 } F_Chosen_isAhead := kCon_of kEnds_Z (by decide +kernel) (by decide) ⟨0, 0, 0, b_Chosen_isAhead⟩
noncomputable def l_Chosen_insert_1 : kSx := sFor 5 (cAnd (cZ 3 (eI 4)) (cZ 1 (eCall 0 F_Chosen_isAhead (eSnoc (eSnoc (eSnoc eNil (eR 0)) (eI 1)) (eAld 0 (eGet 0 2 (eR 0)) (eI 4))))))
  (sSeq (sAst 0 (eGet 0 2 (eR 0)) (eBin kAdd (eI 4) (eK (1))) (eAld 0 (eGet 0 2 (eR 0)) (eI 4)))
  (sLet 0 3 (eI 4)))
  (sInc 4 (-1))
noncomputable def s_Chosen_insert : kSx :=
  (sSeq (sSeq (sLet 0 3 (eI 2))
  (sSeq (sTrunc 4 (sSeq (sLet 0 4 (eBin kSub (eI 2) (eK (1)))) l_Chosen_insert_1))
  (sAst 0 (eGet 0 2 (eR 0)) (eI 3) (eI 1)))) sRetV)
abbrev M_Chosen_insert : kM := (cX0_insert, yX0_insert.cls, 5, { frames := 1, cells := 0, slots := 0, locals := 22 }, none)
set_option maxRecDepth 20000 in
theorem b_Chosen_insert : kSt M_Chosen_insert 0 0 0 0 s_Chosen_insert :=
  (kSt_seq (kSt_seq (p1 := 2) (kSt_let (kE_iload_2 dX0_insert_0) (kSet_istore_3 dX0_insert_1 (by decide)))
  (kSt_seq (p1 := 52) (kSt_trunc (kSt_seq (kSt_let (kE_bin (kE_iload_2 dX0_insert_2) (kE_ic_1 dX0_insert_3) (kOp_sub dX0_insert_4)) (kSet_istore dX0_insert_5 (by decide))) (kSt_for (pu := 46) (pt := 27) (kCd_and (kCd_Z (kE_iload dX0_insert_7) (kZf_3 (tgt := 52) dX0_insert_9 (by decide))) (kCd_Z (kE_call (kEs_snoc (kEs_snoc (kEs_snoc kEs_nil (kE_aload_0 dX0_insert_12)) (kE_iload_1 dX0_insert_13)) (kE_iald (kE_get (kE_aload_0 dX0_insert_14) lf_RX0_15 dX0_insert_15) (kE_iload dX0_insert_18) dX0_insert_20)) dX0_insert_21 c_Chosen_isAhead mv_Chosen_isAhead lm_RX0_44 ⟨rfl, rfl, by decide, by decide⟩ (by decide)) (kZf_1 (tgt := 52) dX0_insert_24 (by decide)))) (kSt_seq (p1 := 43) (kSt_iast (kE_get (kE_aload_0 dX0_insert_27) lf_RX0_15 dX0_insert_28) (kE_bin (kE_iload dX0_insert_31) (kE_ic_1 dX0_insert_33) (kOp_add dX0_insert_34)) (kE_iald (kE_get (kE_aload_0 dX0_insert_35) lf_RX0_15 dX0_insert_36) (kE_iload dX0_insert_39) dX0_insert_41) dX0_insert_42)
  (kSt_let (kE_iload dX0_insert_43) (kSet_istore_3 dX0_insert_45 (by decide)))) (kSt_goto (tgt := 7) (kSt_inc dX0_insert_46 (by decide)) dX0_insert_49 (by decide)))))
  (kSt_iast (kE_get (kE_aload_0 dX0_insert_52) lf_RX0_15 dX0_insert_53) (kE_iload_3 dX0_insert_56) (kE_iload_1 dX0_insert_57) dX0_insert_58))) (kSt_retV dX0_insert_59))
noncomputable def F_Chosen_insert : kFn := kF 3 kN s_Chosen_insert
theorem c_Chosen_insert : kCon yX0_insert cX0_insert 5 none { frames := 1, cells := 0, slots := 0, locals := 22 } F_Chosen_insert := kCon_of kEnds_V (by decide +kernel) (by decide) ⟨0, 0, 0, b_Chosen_insert⟩
noncomputable def s_Chosen_nodeAdded : kSx :=
  (sSeq (sSeq (sAst 0 (eGet 0 1 (eR 0)) (eI 1) (eI 2))
  (sSeq (sCall 0 F_Chosen_insert (eSnoc (eSnoc (eSnoc eNil (eR 0)) (eI 1)) (eI 1)))
  (sAst 1 (eGet 0 3 (eR 0)) (eI 1) (eK (1))))) sRetV)
abbrev M_Chosen_nodeAdded : kM := (cX0_nodeAdded, yX0_nodeAdded.cls, 3, { frames := 2, cells := 0, slots := 0, locals := 46 }, none)
set_option maxRecDepth 20000 in
theorem b_Chosen_nodeAdded : kSt M_Chosen_nodeAdded 0 0 0 0 s_Chosen_nodeAdded :=
  (kSt_seq (kSt_seq (p1 := 7) (kSt_iast (kE_get (kE_aload_0 dX0_nodeAdded_0) lf_RX0_9 dX0_nodeAdded_1) (kE_iload_1 dX0_nodeAdded_4) (kE_iload_2 dX0_nodeAdded_5) dX0_nodeAdded_6)
  (kSt_seq (p1 := 13) (kSt_call (kEs_snoc (kEs_snoc (kEs_snoc kEs_nil (kE_aload_0 dX0_nodeAdded_7)) (kE_iload_1 dX0_nodeAdded_8)) (kE_iload_1 dX0_nodeAdded_9)) dX0_nodeAdded_10 c_Chosen_insert mv_Chosen_insert lm_RX0_32 ⟨rfl, rfl, by decide, by decide⟩)
  (kSt_zast (kE_get (kE_aload_0 dX0_nodeAdded_13) lf_RX0_18 dX0_nodeAdded_14) (kE_iload_1 dX0_nodeAdded_17) (kE_ic_1 dX0_nodeAdded_18) dX0_nodeAdded_19))) (kSt_retV dX0_nodeAdded_20))
noncomputable def F_Chosen_nodeAdded : kFn := kF 3 kN s_Chosen_nodeAdded
theorem c_Chosen_nodeAdded : kCon yX0_nodeAdded cX0_nodeAdded 3 none { frames := 2, cells := 0, slots := 0, locals := 46 } F_Chosen_nodeAdded := kCon_of kEnds_V (by decide +kernel) (by decide) ⟨0, 0, 0, b_Chosen_nodeAdded⟩
noncomputable def l_Chosen_isFree_1 : kSx := sFor 4 (cC 2 (eI 3) (eI 2))
  (sTrunc 4 (sSeq (sLet 0 4 (eCall 10 F_Web_other (eSnoc (eSnoc (eSnoc eNil (eGet 0 0 (eR 0))) (eCall 10 F_Web_arcAt (eSnoc (eSnoc (eSnoc eNil (eGet 0 0 (eR 0))) (eI 1)) (eI 3)))) (eI 1))))
  (sIf (cAnd (cZ 1 (eAld 1 (eGet 0 3 (eR 0)) (eI 4))) (cZ 1 (eCall 0 F_Chosen_isAhead (eSnoc (eSnoc (eSnoc eNil (eR 0)) (eI 4)) (eI 1))))) (sRet 0 (eK (0))) sSkip)))
  (sInc 3 (1))
noncomputable def s_Chosen_isFree : kSx :=
  (sSeq (sLet 0 2 (eCall 10 F_Web_degree (eSnoc (eSnoc eNil (eGet 0 0 (eR 0))) (eI 1))))
  (sSeq (sTrunc 3 (sSeq (sLet 0 3 (eK (0))) l_Chosen_isFree_1))
  (sRet 0 (eK (1)))))
abbrev M_Chosen_isFree : kM := (cX0_isFree, yX0_isFree.cls, 5, { frames := 1, cells := 0, slots := 0, locals := 23 }, (some .boolean))
set_option maxRecDepth 20000 in
theorem b_Chosen_isFree : kSt M_Chosen_isFree 0 0 0 0 s_Chosen_isFree :=
  (kSt_seq (p1 := 9) (kSt_let (kE_call (kEs_snoc (kEs_snoc kEs_nil (kE_get (kE_aload_0 dX0_isFree_0) lf_RX0_22 dX0_isFree_1)) (kE_iload_1 dX0_isFree_4)) dX0_isFree_5 c_Web_degree mv_Web_degree lm_RX0_52 ⟨rfl, rfl, by decide, by decide⟩ (by decide)) (kSet_istore_2 dX0_isFree_8 (by decide)))
  (kSt_seq (p1 := 63) (kSt_trunc (kSt_seq (kSt_let (kE_ic_0 dX0_isFree_9) (kSet_istore_3 dX0_isFree_10 (by decide))) (kSt_for (pu := 57) (pt := 16) (kCd_C (kE_iload_3 dX0_isFree_11) (kE_iload_2 dX0_isFree_12) (kJf_2 (tgt := 63) dX0_isFree_13 (by decide))) (kSt_trunc (kSt_seq (p1 := 35) (kSt_let (kE_call (kEs_snoc (kEs_snoc (kEs_snoc kEs_nil (kE_get (kE_aload_0 dX0_isFree_16) lf_RX0_22 dX0_isFree_17)) (kE_call (kEs_snoc (kEs_snoc (kEs_snoc kEs_nil (kE_get (kE_aload_0 dX0_isFree_20) lf_RX0_22 dX0_isFree_21)) (kE_iload_1 dX0_isFree_24)) (kE_iload_3 dX0_isFree_25)) dX0_isFree_26 c_Web_arcAt mv_Web_arcAt lm_RX0_56 ⟨rfl, rfl, by decide, by decide⟩ (by decide))) (kE_iload_1 dX0_isFree_29)) dX0_isFree_30 c_Web_other mv_Web_other lm_RX0_60 ⟨rfl, rfl, by decide, by decide⟩ (by decide)) (kSet_istore dX0_isFree_33 (by decide)))
  (kSt_if (kCd_and (kCd_Z (kE_zald (kE_get (kE_aload_0 dX0_isFree_35) lf_RX0_18 dX0_isFree_36) (kE_iload dX0_isFree_39) dX0_isFree_41) (kZf_1 (tgt := 57) dX0_isFree_42 (by decide))) (kCd_Z (kE_call (kEs_snoc (kEs_snoc (kEs_snoc kEs_nil (kE_aload_0 dX0_isFree_45)) (kE_iload dX0_isFree_46)) (kE_iload_1 dX0_isFree_48)) dX0_isFree_49 c_Chosen_isAhead mv_Chosen_isAhead lm_RX0_44 ⟨rfl, rfl, by decide, by decide⟩ (by decide)) (kZf_1 (tgt := 57) dX0_isFree_52 (by decide)))) (kSt_ret (tag := 0) (kE_ic_0 dX0_isFree_55) ⟨fun _ => dX0_isFree_56, fun q => (by cases q), fun q => (by cases q)⟩) kSt_skip))) (kSt_goto (tgt := 11) (kSt_inc dX0_isFree_57 (by decide)) dX0_isFree_60 (by decide)))))
  (kSt_ret (tag := 0) (kE_ic_1 dX0_isFree_63) ⟨fun _ => dX0_isFree_64, fun q => (by cases q), fun q => (by cases q)⟩)))
noncomputable def F_Chosen_isFree : kFn := kF 2 kZ s_Chosen_isFree
theorem c_Chosen_isFree : kCon yX0_isFree cX0_isFree 5 (some .boolean) { frames := 1, cells := 0, slots := 0, locals := 23 } F_Chosen_isFree := kCon_of kEnds_Z (by decide +kernel) (by decide) ⟨0, 0, 0, b_Chosen_isFree⟩
noncomputable def l_Chosen_renew_1 : kSx := sFor 3 (cC 2 (eI 2) (eGet 10 3 (eGet 0 0 (eR 0))))
  (sTrunc 3 (sSeq (sLet 0 3 (eAld 0 (eGet 0 2 (eR 0)) (eI 2)))
  (sSeq (sLet 0 4 (eCall 0 F_Chosen_isFree (eSnoc (eSnoc eNil (eR 0)) (eI 3))))
  (sIf (cC 1 (eAld 1 (eGet 0 3 (eR 0)) (eI 3)) (eI 4)) (sSeq (sAst 1 (eGet 0 3 (eR 0)) (eI 3) (eI 4))
  (sInc 1 (1))) sSkip))))
  (sInc 2 (1))
noncomputable def s_Chosen_renew : kSx :=
  (sSeq (sLet 0 1 (eK (0)))
  (sSeq (sTrunc 2 (sSeq (sLet 0 2 (eK (0))) l_Chosen_renew_1))
  (sRet 0 (eI 1))))
abbrev M_Chosen_renew : kM := (cX0_renew, yX0_renew.cls, 5, { frames := 2, cells := 0, slots := 0, locals := 47 }, (some .int))
set_option maxRecDepth 20000 in
theorem b_Chosen_renew : kSt M_Chosen_renew 0 0 0 0 s_Chosen_renew :=
  (kSt_seq (p1 := 2) (kSt_let (kE_ic_0 dX0_renew_0) (kSet_istore_1 dX0_renew_1 (by decide)))
  (kSt_seq (p1 := 57) (kSt_trunc (kSt_seq (kSt_let (kE_ic_0 dX0_renew_2) (kSet_istore_2 dX0_renew_3 (by decide))) (kSt_for (pu := 51) (pt := 15) (kCd_C (kE_iload_2 dX0_renew_4) (kE_get (kE_get (kE_aload_0 dX0_renew_5) lf_RX0_22 dX0_renew_6) lf_RX0_26 dX0_renew_9) (kJf_2 (tgt := 57) dX0_renew_12 (by decide))) (kSt_trunc (kSt_seq (p1 := 22) (kSt_let (kE_iald (kE_get (kE_aload_0 dX0_renew_15) lf_RX0_15 dX0_renew_16) (kE_iload_2 dX0_renew_19) dX0_renew_20) (kSet_istore_3 dX0_renew_21 (by decide)))
  (kSt_seq (p1 := 29) (kSt_let (kE_call (kEs_snoc (kEs_snoc kEs_nil (kE_aload_0 dX0_renew_22)) (kE_iload_3 dX0_renew_23)) dX0_renew_24 c_Chosen_isFree mv_Chosen_isFree lm_RX0_48 ⟨rfl, rfl, by decide, by decide⟩ (by decide)) (kSet_istore dX0_renew_27 (by decide)))
  (kSt_if (kCd_C (kE_zald (kE_get (kE_aload_0 dX0_renew_29) lf_RX0_18 dX0_renew_30) (kE_iload_3 dX0_renew_33) dX0_renew_34) (kE_iload dX0_renew_35) (kJf_1 (tgt := 51) dX0_renew_37 (by decide))) (kSt_seq (p1 := 48) (kSt_zast (kE_get (kE_aload_0 dX0_renew_40) lf_RX0_18 dX0_renew_41) (kE_iload_3 dX0_renew_44) (kE_iload dX0_renew_45) dX0_renew_47)
  (kSt_inc dX0_renew_48 (by decide))) kSt_skip)))) (kSt_goto (tgt := 4) (kSt_inc dX0_renew_51 (by decide)) dX0_renew_54 (by decide)))))
  (kSt_ret (tag := 0) (kE_iload_1 dX0_renew_57) ⟨fun _ => dX0_renew_58, fun q => (by cases q), fun q => (by cases q)⟩)))
noncomputable def F_Chosen_renew : kFn := kF 1 kI s_Chosen_renew
theorem c_Chosen_renew : kCon yX0_renew cX0_renew 5 (some .int) { frames := 2, cells := 0, slots := 0, locals := 47 } F_Chosen_renew := kCon_of kEnds_I (by decide +kernel) (by decide) ⟨0, 0, 0, b_Chosen_renew⟩
noncomputable def s_Chosen_reweigh : kSx :=
  (sSeq (sLet 0 3 (eCallS F_KP_leaveOut (eSnoc (eSnoc (eSnoc eNil (eGet 0 2 (eR 0))) (eGet 10 3 (eGet 0 0 (eR 0)))) (eI 1))))
  (sSeq (sAst 0 (eGet 0 1 (eR 0)) (eI 1) (eI 2))
  (sSeq (sCall 0 F_Chosen_insert (eSnoc (eSnoc (eSnoc eNil (eR 0)) (eI 1)) (eI 3)))
  (sRet 0 (eCall 0 F_Chosen_renew (eSnoc eNil (eR 0)))))))
abbrev M_Chosen_reweigh : kM := (cX0_reweigh, yX0_reweigh.cls, 4, { frames := 3, cells := 0, slots := 0, locals := 71 }, (some .int))
set_option maxRecDepth 20000 in
theorem b_Chosen_reweigh : kSt M_Chosen_reweigh 0 0 0 0 s_Chosen_reweigh :=
  (kSt_seq (p1 := 16) (kSt_let (kE_callN (kEs_snoc (kEs_snoc (kEs_snoc kEs_nil (kE_get (kE_aload_0 dX0_reweigh_0) lf_RX0_15 dX0_reweigh_1)) (kE_get (kE_get (kE_aload_0 dX0_reweigh_4) lf_RX0_22 dX0_reweigh_5) lf_RX0_26 dX0_reweigh_8)) (kE_iload_1 dX0_reweigh_11)) dX0_reweigh_12 c_KP_leaveOut mv_KP_leaveOut lm_RX0_36 ⟨rfl, rfl, by decide, by decide⟩ (by decide)) (kSet_istore_3 dX0_reweigh_15 (by decide)))
  (kSt_seq (p1 := 23) (kSt_iast (kE_get (kE_aload_0 dX0_reweigh_16) lf_RX0_9 dX0_reweigh_17) (kE_iload_1 dX0_reweigh_20) (kE_iload_2 dX0_reweigh_21) dX0_reweigh_22)
  (kSt_seq (p1 := 29) (kSt_call (kEs_snoc (kEs_snoc (kEs_snoc kEs_nil (kE_aload_0 dX0_reweigh_23)) (kE_iload_1 dX0_reweigh_24)) (kE_iload_3 dX0_reweigh_25)) dX0_reweigh_26 c_Chosen_insert mv_Chosen_insert lm_RX0_32 ⟨rfl, rfl, by decide, by decide⟩)
  (kSt_ret (tag := 0) (kE_call (kEs_snoc kEs_nil (kE_aload_0 dX0_reweigh_29)) dX0_reweigh_30 c_Chosen_renew mv_Chosen_renew lm_RX0_40 ⟨rfl, rfl, by decide, by decide⟩ (by decide)) ⟨fun _ => dX0_reweigh_33, fun q => (by cases q), fun q => (by cases q)⟩))))
noncomputable def F_Chosen_reweigh : kFn := kF 3 kI s_Chosen_reweigh
theorem c_Chosen_reweigh : kCon yX0_reweigh cX0_reweigh 4 (some .int) { frames := 3, cells := 0, slots := 0, locals := 71 } F_Chosen_reweigh := kCon_of kEnds_I (by decide +kernel) (by decide) ⟨0, 0, 0, b_Chosen_reweigh⟩
noncomputable def s_Chosen_arcChanged : kSx :=
  (sSeq (sLet 0 3 (eIf (cZ 1 (eCall 0 F_Chosen_isAhead (eSnoc (eSnoc (eSnoc eNil (eR 0)) (eI 1)) (eI 2)))) (eI 2) (eI 1)))
  (sRet 0 (eIf (cC 0 (eAld 1 (eGet 0 3 (eR 0)) (eI 3)) (eCall 0 F_Chosen_isFree (eSnoc (eSnoc eNil (eR 0)) (eI 3)))) (eK (0)) (eCall 0 F_Chosen_renew (eSnoc eNil (eR 0))))))
abbrev M_Chosen_arcChanged : kM := (cX0_arcChanged, yX0_arcChanged.cls, 4, { frames := 3, cells := 0, slots := 0, locals := 71 }, (some .int))
set_option maxRecDepth 20000 in
theorem b_Chosen_arcChanged : kSt M_Chosen_arcChanged 0 0 0 0 s_Chosen_arcChanged :=
  (kSt_seq (p1 := 15) (kSt_let (kE_if (kCd_Z (kE_call (kEs_snoc (kEs_snoc (kEs_snoc kEs_nil (kE_aload_0 dX0_arcChanged_0)) (kE_iload_1 dX0_arcChanged_1)) (kE_iload_2 dX0_arcChanged_2)) dX0_arcChanged_3 c_Chosen_isAhead mv_Chosen_isAhead lm_RX0_44 ⟨rfl, rfl, by decide, by decide⟩ (by decide)) (kZf_1 (tgt := 13) dX0_arcChanged_6 (by decide))) (kE_goto (tgt := 14) (kE_iload_2 dX0_arcChanged_9) dX0_arcChanged_10 (by decide)) (kE_iload_1 dX0_arcChanged_13)) (kSet_istore_3 dX0_arcChanged_14 (by decide)))
  (kSt_ret (tag := 0) (kE_if (kCd_C (kE_zald (kE_get (kE_aload_0 dX0_arcChanged_15) lf_RX0_18 dX0_arcChanged_16) (kE_iload_3 dX0_arcChanged_19) dX0_arcChanged_20) (kE_call (kEs_snoc (kEs_snoc kEs_nil (kE_aload_0 dX0_arcChanged_21)) (kE_iload_3 dX0_arcChanged_22)) dX0_arcChanged_23 c_Chosen_isFree mv_Chosen_isFree lm_RX0_48 ⟨rfl, rfl, by decide, by decide⟩ (by decide)) (kJf_0 (tgt := 33) dX0_arcChanged_26 (by decide))) (kE_goto (tgt := 37) (kE_ic_0 dX0_arcChanged_29) dX0_arcChanged_30 (by decide)) (kE_call (kEs_snoc kEs_nil (kE_aload_0 dX0_arcChanged_33)) dX0_arcChanged_34 c_Chosen_renew mv_Chosen_renew lm_RX0_40 ⟨rfl, rfl, by decide, by decide⟩ (by decide))) ⟨fun _ => dX0_arcChanged_37, fun q => (by cases q), fun q => (by cases q)⟩))
noncomputable def F_Chosen_arcChanged : kFn := kF 3 kI s_Chosen_arcChanged
theorem c_Chosen_arcChanged : kCon yX0_arcChanged cX0_arcChanged 4 (some .int) { frames := 3, cells := 0, slots := 0, locals := 71 } F_Chosen_arcChanged := kCon_of kEnds_I (by decide +kernel) (by decide) ⟨0, 0, 0, b_Chosen_arcChanged⟩
noncomputable def l_Chosen_holds_1 : kSx := sFor 2 (cC 2 (eI 1) (eGet 10 3 (eGet 0 0 (eR 0))))
  (sIf (cC 1 (eAld 1 (eGet 0 3 (eR 0)) (eI 1)) (eCall 0 F_Chosen_isFree (eSnoc (eSnoc eNil (eR 0)) (eI 1)))) (sRet 0 (eK (0))) sSkip)
  (sInc 1 (1))
noncomputable def s_Chosen_holds : kSx :=
  (sSeq (sTrunc 1 (sSeq (sLet 0 1 (eK (0))) l_Chosen_holds_1))
  (sRet 0 (eK (1))))
abbrev M_Chosen_holds : kM := (cX0_holds, yX0_holds.cls, 2, { frames := 2, cells := 0, slots := 0, locals := 47 }, (some .boolean))
set_option maxRecDepth 20000 in
theorem b_Chosen_holds : kSt M_Chosen_holds 0 0 0 0 s_Chosen_holds :=
  (kSt_seq (p1 := 35) (kSt_trunc (kSt_seq (kSt_let (kE_ic_0 dX0_holds_0) (kSet_istore_1 dX0_holds_1 (by decide))) (kSt_for (pu := 29) (pt := 13) (kCd_C (kE_iload_1 dX0_holds_2) (kE_get (kE_get (kE_aload_0 dX0_holds_3) lf_RX0_22 dX0_holds_4) lf_RX0_26 dX0_holds_7) (kJf_2 (tgt := 35) dX0_holds_10 (by decide))) (kSt_if (kCd_C (kE_zald (kE_get (kE_aload_0 dX0_holds_13) lf_RX0_18 dX0_holds_14) (kE_iload_1 dX0_holds_17) dX0_holds_18) (kE_call (kEs_snoc (kEs_snoc kEs_nil (kE_aload_0 dX0_holds_19)) (kE_iload_1 dX0_holds_20)) dX0_holds_21 c_Chosen_isFree mv_Chosen_isFree lm_RX0_48 ⟨rfl, rfl, by decide, by decide⟩ (by decide)) (kJf_1 (tgt := 29) dX0_holds_24 (by decide))) (kSt_ret (tag := 0) (kE_ic_0 dX0_holds_27) ⟨fun _ => dX0_holds_28, fun q => (by cases q), fun q => (by cases q)⟩) kSt_skip) (kSt_goto (tgt := 2) (kSt_inc dX0_holds_29 (by decide)) dX0_holds_32 (by decide)))))
  (kSt_ret (tag := 0) (kE_ic_1 dX0_holds_35) ⟨fun _ => dX0_holds_36, fun q => (by cases q), fun q => (by cases q)⟩))
noncomputable def F_Chosen_holds : kFn := kF 1 kZ s_Chosen_holds
theorem c_Chosen_holds : kCon yX0_holds cX0_holds 2 (some .boolean) { frames := 2, cells := 0, slots := 0, locals := 47 } F_Chosen_holds := kCon_of kEnds_Z (by decide +kernel) (by decide) ⟨0, 0, 0, b_Chosen_holds⟩
noncomputable def s_Plan_isFull : kSx :=
  (sRet 0 (eIf (cC 3 (eGet 4 0 (eR 0)) (eK (60))) (eK (1)) (eK (0))))
abbrev M_Plan_isFull : kM := (cX4_isFull, yX4_isFull.cls, 1, { frames := 0, cells := 0, slots := 0, locals := 0 }, (some .boolean))
set_option maxRecDepth 20000 in
theorem b_Plan_isFull : kSt M_Plan_isFull 0 0 0 0 s_Plan_isFull :=
  (kSt_ret (tag := 0) (kE_if (kCd_C (kE_get (kE_aload_0 dX4_isFull_0) lf_RX4_45 dX4_isFull_1) (kE_bipush dX4_isFull_4 (by rfl) ⟨by decide, by decide⟩) (kJf_3 (tgt := 13) dX4_isFull_6 (by decide))) (kE_goto (tgt := 14) (kE_ic_1 dX4_isFull_9) dX4_isFull_10 (by decide)) (kE_ic_0 dX4_isFull_13)) ⟨fun _ => dX4_isFull_14, fun q => (by cases q), fun q => (by cases q)⟩)
noncomputable def F_Plan_isFull : kFn := kF 1 kZ s_Plan_isFull
theorem c_Plan_isFull : kCon yX4_isFull cX4_isFull 1 (some .boolean) { frames := 0, cells := 0, slots := 0, locals := 0 } F_Plan_isFull := kCon_of kEnds_Z (by decide +kernel) (by decide) ⟨0, 0, 0, b_Plan_isFull⟩
noncomputable def s_Plan_puts : kSx :=
  (sRet 0 (eIf (cAnd (cAnd (cZ 3 (eI 1)) (cC 2 (eI 1) (eGet 4 0 (eR 0)))) (cZ 1 (eAld 1 (eGet 4 4 (eR 0)) (eI 1)))) (eK (1)) (eK (0))))
abbrev M_Plan_puts : kM := (cX4_puts, yX4_puts.cls, 2, { frames := 0, cells := 0, slots := 0, locals := 0 }, (some .boolean))
set_option maxRecDepth 20000 in
theorem b_Plan_puts : kSt M_Plan_puts 0 0 0 0 s_Plan_puts :=
  (kSt_ret (tag := 0) (kE_if (kCd_and (kCd_and (kCd_Z (kE_iload_1 dX4_puts_0) (kZf_3 (tgt := 25) dX4_puts_1 (by decide))) (kCd_C (kE_iload_1 dX4_puts_4) (kE_get (kE_aload_0 dX4_puts_5) lf_RX4_45 dX4_puts_6) (kJf_2 (tgt := 25) dX4_puts_9 (by decide)))) (kCd_Z (kE_zald (kE_get (kE_aload_0 dX4_puts_12) lf_RX4_15 dX4_puts_13) (kE_iload_1 dX4_puts_16) dX4_puts_17) (kZf_1 (tgt := 25) dX4_puts_18 (by decide)))) (kE_goto (tgt := 26) (kE_ic_1 dX4_puts_21) dX4_puts_22 (by decide)) (kE_ic_0 dX4_puts_25)) ⟨fun _ => dX4_puts_26, fun q => (by cases q), fun q => (by cases q)⟩)
noncomputable def F_Plan_puts : kFn := kF 2 kZ s_Plan_puts
theorem c_Plan_puts : kCon yX4_puts cX4_puts 2 (some .boolean) { frames := 0, cells := 0, slots := 0, locals := 0 } F_Plan_puts := kCon_of kEnds_Z (by decide +kernel) (by decide) ⟨0, 0, 0, b_Plan_puts⟩
noncomputable def s_Plan_takes : kSx :=
  (sRet 0 (eIf (cZ 3 (eI 1)) (eIf (cC 1 (eAld 0 (eGet 4 7 (eR 0)) (eI 1)) (eK (-1))) (eK (1)) (eK (0))) (eIf (cC 1 (eAld 0 (eGet 4 8 (eR 0)) (eBin kSub (eK (-1)) (eI 1))) (eK (-1))) (eK (1)) (eK (0)))))
abbrev M_Plan_takes : kM := (cX4_takes, yX4_takes.cls, 2, { frames := 0, cells := 0, slots := 0, locals := 0 }, (some .boolean))
set_option maxRecDepth 20000 in
theorem b_Plan_takes : kSt M_Plan_takes 0 0 0 0 s_Plan_takes :=
  (kSt_ret (tag := 0) (kE_if (kCd_Z (kE_iload_1 dX4_takes_0) (kZf_3 (tgt := 22) dX4_takes_1 (by decide))) (kE_if (kCd_C (kE_iald (kE_get (kE_aload_0 dX4_takes_4) lf_RX4_25 dX4_takes_5) (kE_iload_1 dX4_takes_8) dX4_takes_9) (kE_ic_m1 dX4_takes_10) (kJf_1 (tgt := 18) dX4_takes_11 (by decide))) (kE_goto (tgt := 39) (kE_ic_1 dX4_takes_14) dX4_takes_15 (by decide)) (kE_goto (tgt := 39) (kE_ic_0 dX4_takes_18) dX4_takes_19 (by decide))) (kE_if (kCd_C (kE_iald (kE_get (kE_aload_0 dX4_takes_22) lf_RX4_28 dX4_takes_23) (kE_bin (kE_ic_m1 dX4_takes_26) (kE_iload_1 dX4_takes_27) (kOp_sub dX4_takes_28)) dX4_takes_29) (kE_ic_m1 dX4_takes_30) (kJf_1 (tgt := 38) dX4_takes_31 (by decide))) (kE_goto (tgt := 39) (kE_ic_1 dX4_takes_34) dX4_takes_35 (by decide)) (kE_ic_0 dX4_takes_38))) ⟨fun _ => dX4_takes_39, fun q => (by cases q), fun q => (by cases q)⟩)
noncomputable def F_Plan_takes : kFn := kF 2 kZ s_Plan_takes
theorem c_Plan_takes : kCon yX4_takes cX4_takes 2 (some .boolean) { frames := 0, cells := 0, slots := 0, locals := 0 } F_Plan_takes := kCon_of kEnds_Z (by decide +kernel) (by decide) ⟨0, 0, 0, b_Plan_takes⟩
noncomputable def s_Plan_addPut : kSx :=
  (sSeq (sLet 0 3 (eGet 4 0 (eR 0)))
  (sSeq (sAst 1 (eGet 4 4 (eR 0)) (eI 3) (eK (1)))
  (sSeq (sAst 0 (eGet 4 5 (eR 0)) (eI 3) (eI 1))
  (sSeq (sAst 0 (eGet 4 6 (eR 0)) (eI 3) (eI 2))
  (sSeq (sPutOp 4 0 (eR 0) kAdd (eK (1)))
  (sRet 0 (eI 3)))))))
abbrev M_Plan_addPut : kM := (cX4_addPut, yX4_addPut.cls, 4, { frames := 0, cells := 0, slots := 0, locals := 0 }, (some .int))
set_option maxRecDepth 20000 in
theorem b_Plan_addPut : kSt M_Plan_addPut 0 0 0 0 s_Plan_addPut :=
  (kSt_seq (p1 := 5) (kSt_let (kE_get (kE_aload_0 dX4_addPut_0) lf_RX4_45 dX4_addPut_1) (kSet_istore_3 dX4_addPut_4 (by decide)))
  (kSt_seq (p1 := 12) (kSt_zast (kE_get (kE_aload_0 dX4_addPut_5) lf_RX4_15 dX4_addPut_6) (kE_iload_3 dX4_addPut_9) (kE_ic_1 dX4_addPut_10) dX4_addPut_11)
  (kSt_seq (p1 := 19) (kSt_iast (kE_get (kE_aload_0 dX4_addPut_12) lf_RX4_19 dX4_addPut_13) (kE_iload_3 dX4_addPut_16) (kE_iload_1 dX4_addPut_17) dX4_addPut_18)
  (kSt_seq (p1 := 26) (kSt_iast (kE_get (kE_aload_0 dX4_addPut_19) lf_RX4_22 dX4_addPut_20) (kE_iload_3 dX4_addPut_23) (kE_iload_2 dX4_addPut_24) dX4_addPut_25)
  (kSt_seq (p1 := 36) (kSt_putOp (kE_aload_0 dX4_addPut_26) dX4_addPut_27 lf_RX4_45 dX4_addPut_28 (kE_ic_1 dX4_addPut_31) (kOp_add dX4_addPut_32) lp_RX4_45 dX4_addPut_33)
  (kSt_ret (tag := 0) (kE_iload_3 dX4_addPut_36) ⟨fun _ => dX4_addPut_37, fun q => (by cases q), fun q => (by cases q)⟩))))))
noncomputable def F_Plan_addPut : kFn := kF 3 kI s_Plan_addPut
theorem c_Plan_addPut : kCon yX4_addPut cX4_addPut 4 (some .int) { frames := 0, cells := 0, slots := 0, locals := 0 } F_Plan_addPut := kCon_of kEnds_I (by decide +kernel) (by decide) ⟨0, 0, 0, b_Plan_addPut⟩
noncomputable def s_Plan_setTaker : kSx :=
  (sSeq (sIf (cZ 3 (eI 1)) (sAst 0 (eGet 4 7 (eR 0)) (eI 1) (eI 2))
  (sAst 0 (eGet 4 8 (eR 0)) (eBin kSub (eK (-1)) (eI 1)) (eI 2))) sRetV)
abbrev M_Plan_setTaker : kM := (cX4_setTaker, yX4_setTaker.cls, 3, { frames := 0, cells := 0, slots := 0, locals := 0 }, none)
set_option maxRecDepth 20000 in
theorem b_Plan_setTaker : kSt M_Plan_setTaker 0 0 0 0 s_Plan_setTaker :=
  (kSt_seq (kSt_if (kCd_Z (kE_iload_1 dX4_setTaker_0) (kZf_3 (tgt := 14) dX4_setTaker_1 (by decide))) (kSt_goto (tgt := 23) (kSt_iast (kE_get (kE_aload_0 dX4_setTaker_4) lf_RX4_25 dX4_setTaker_5) (kE_iload_1 dX4_setTaker_8) (kE_iload_2 dX4_setTaker_9) dX4_setTaker_10) dX4_setTaker_11 (by decide))
  (kSt_iast (kE_get (kE_aload_0 dX4_setTaker_14) lf_RX4_28 dX4_setTaker_15) (kE_bin (kE_ic_m1 dX4_setTaker_18) (kE_iload_1 dX4_setTaker_19) (kOp_sub dX4_setTaker_20)) (kE_iload_2 dX4_setTaker_21) dX4_setTaker_22)) (kSt_retV dX4_setTaker_23))
noncomputable def F_Plan_setTaker : kFn := kF 3 kN s_Plan_setTaker
theorem c_Plan_setTaker : kCon yX4_setTaker cX4_setTaker 3 none { frames := 0, cells := 0, slots := 0, locals := 0 } F_Plan_setTaker := kCon_of kEnds_V (by decide +kernel) (by decide) ⟨0, 0, 0, b_Plan_setTaker⟩
noncomputable def s_Plan_addTake : kSx :=
  (sSeq (sLet 0 2 (eGet 4 0 (eR 0)))
  (sSeq (sAst 1 (eGet 4 4 (eR 0)) (eI 2) (eK (0)))
  (sSeq (sAst 0 (eGet 4 3 (eR 0)) (eI 2) (eI 1))
  (sSeq (sCall 4 F_Plan_setTaker (eSnoc (eSnoc (eSnoc eNil (eR 0)) (eI 1)) (eI 2)))
  (sSeq (sPutOp 4 0 (eR 0) kAdd (eK (1)))
  (sRet 0 (eI 2)))))))
abbrev M_Plan_addTake : kM := (cX4_addTake, yX4_addTake.cls, 3, { frames := 1, cells := 0, slots := 0, locals := 22 }, (some .int))
set_option maxRecDepth 20000 in
theorem b_Plan_addTake : kSt M_Plan_addTake 0 0 0 0 s_Plan_addTake :=
  (kSt_seq (p1 := 5) (kSt_let (kE_get (kE_aload_0 dX4_addTake_0) lf_RX4_45 dX4_addTake_1) (kSet_istore_2 dX4_addTake_4 (by decide)))
  (kSt_seq (p1 := 12) (kSt_zast (kE_get (kE_aload_0 dX4_addTake_5) lf_RX4_15 dX4_addTake_6) (kE_iload_2 dX4_addTake_9) (kE_ic_0 dX4_addTake_10) dX4_addTake_11)
  (kSt_seq (p1 := 19) (kSt_iast (kE_get (kE_aload_0 dX4_addTake_12) lf_RX4_9 dX4_addTake_13) (kE_iload_2 dX4_addTake_16) (kE_iload_1 dX4_addTake_17) dX4_addTake_18)
  (kSt_seq (p1 := 25) (kSt_call (kEs_snoc (kEs_snoc (kEs_snoc kEs_nil (kE_aload_0 dX4_addTake_19)) (kE_iload_1 dX4_addTake_20)) (kE_iload_2 dX4_addTake_21)) dX4_addTake_22 c_Plan_setTaker mv_Plan_setTaker lm_RX4_49 ⟨rfl, rfl, by decide, by decide⟩)
  (kSt_seq (p1 := 35) (kSt_putOp (kE_aload_0 dX4_addTake_25) dX4_addTake_26 lf_RX4_45 dX4_addTake_27 (kE_ic_1 dX4_addTake_30) (kOp_add dX4_addTake_31) lp_RX4_45 dX4_addTake_32)
  (kSt_ret (tag := 0) (kE_iload_2 dX4_addTake_35) ⟨fun _ => dX4_addTake_36, fun q => (by cases q), fun q => (by cases q)⟩))))))
noncomputable def F_Plan_addTake : kFn := kF 2 kI s_Plan_addTake
theorem c_Plan_addTake : kCon yX4_addTake cX4_addTake 3 (some .int) { frames := 1, cells := 0, slots := 0, locals := 22 } F_Plan_addTake := kCon_of kEnds_I (by decide +kernel) (by decide) ⟨0, 0, 0, b_Plan_addTake⟩
noncomputable def l_Plan_forget_1 : kSx := sFor 3 (cC 2 (eI 2) (eI 1))
  (sIf (cNot (cZ 1 (eAld 1 (eGet 4 4 (eR 0)) (eI 2)))) (sCall 4 F_Plan_setTaker (eSnoc (eSnoc (eSnoc eNil (eR 0)) (eAld 0 (eGet 4 3 (eR 0)) (eI 2))) (eK (-1)))) sSkip)
  (sInc 2 (1))
noncomputable def s_Plan_forget : kSx :=
  (sSeq (sLet 0 1 (eGet 4 0 (eR 0)))
  (sSeq (sTrunc 2 (sSeq (sLet 0 2 (eK (0))) l_Plan_forget_1))
  (sSeq (sPut 4 0 (eR 0) (eK (0)))
  (sRet 0 (eI 1)))))
abbrev M_Plan_forget : kM := (cX4_forget, yX4_forget.cls, 3, { frames := 1, cells := 0, slots := 0, locals := 22 }, (some .int))
set_option maxRecDepth 20000 in
theorem b_Plan_forget : kSt M_Plan_forget 0 0 0 0 s_Plan_forget :=
  (kSt_seq (p1 := 5) (kSt_let (kE_get (kE_aload_0 dX4_forget_0) lf_RX4_45 dX4_forget_1) (kSet_istore_1 dX4_forget_4 (by decide)))
  (kSt_seq (p1 := 38) (kSt_trunc (kSt_seq (kSt_let (kE_ic_0 dX4_forget_5) (kSet_istore_2 dX4_forget_6 (by decide))) (kSt_for (pu := 32) (pt := 12) (kCd_C (kE_iload_2 dX4_forget_7) (kE_iload_1 dX4_forget_8) (kJf_2 (tgt := 38) dX4_forget_9 (by decide))) (kSt_if (kCd_not (kCd_Z (kE_zald (kE_get (kE_aload_0 dX4_forget_12) lf_RX4_15 dX4_forget_13) (kE_iload_2 dX4_forget_16) dX4_forget_17) (kZt_1 (tgt := 32) dX4_forget_18 (by decide)))) (kSt_call (kEs_snoc (kEs_snoc (kEs_snoc kEs_nil (kE_aload_0 dX4_forget_21)) (kE_iald (kE_get (kE_aload_0 dX4_forget_22) lf_RX4_9 dX4_forget_23) (kE_iload_2 dX4_forget_26) dX4_forget_27)) (kE_ic_m1 dX4_forget_28)) dX4_forget_29 c_Plan_setTaker mv_Plan_setTaker lm_RX4_49 ⟨rfl, rfl, by decide, by decide⟩) kSt_skip) (kSt_goto (tgt := 7) (kSt_inc dX4_forget_32 (by decide)) dX4_forget_35 (by decide)))))
  (kSt_seq (p1 := 43) (kSt_put (kE_aload_0 dX4_forget_38) (kE_ic_0 dX4_forget_39) lp_RX4_45 dX4_forget_40)
  (kSt_ret (tag := 0) (kE_iload_1 dX4_forget_43) ⟨fun _ => dX4_forget_44, fun q => (by cases q), fun q => (by cases q)⟩))))
noncomputable def F_Plan_forget : kFn := kF 1 kI s_Plan_forget
theorem c_Plan_forget : kCon yX4_forget cX4_forget 3 (some .int) { frames := 1, cells := 0, slots := 0, locals := 22 } F_Plan_forget := kCon_of kEnds_I (by decide +kernel) (by decide) ⟨0, 0, 0, b_Plan_forget⟩
noncomputable def l_Plan_arcsBehind_1 : kSx := sFor 4 (cC 2 (eI 3) (eI 1))
  (sLet 0 2 (eBin kAdd (eI 2) (eIf (cZ 1 (eAld 1 (eGet 4 4 (eR 0)) (eI 3))) (eK (1)) (eK (-1)))))
  (sInc 3 (1))
noncomputable def s_Plan_arcsBehind : kSx :=
  (sSeq (sLet 0 2 (eGet 10 4 (eGet 4 1 (eR 0))))
  (sSeq (sTrunc 3 (sSeq (sLet 0 3 (eK (0))) l_Plan_arcsBehind_1))
  (sRet 0 (eI 2))))
abbrev M_Plan_arcsBehind : kM := (cX4_arcsBehind, yX4_arcsBehind.cls, 4, { frames := 0, cells := 0, slots := 0, locals := 0 }, (some .int))
set_option maxRecDepth 20000 in
theorem b_Plan_arcsBehind : kSt M_Plan_arcsBehind 0 0 0 0 s_Plan_arcsBehind :=
  (kSt_seq (p1 := 8) (kSt_let (kE_get (kE_get (kE_aload_0 dX4_arcsBehind_0) lf_RX4_31 dX4_arcsBehind_1) lf_RX4_53 dX4_arcsBehind_4) (kSet_istore_2 dX4_arcsBehind_7 (by decide)))
  (kSt_seq (p1 := 38) (kSt_trunc (kSt_seq (kSt_let (kE_ic_0 dX4_arcsBehind_8) (kSet_istore_3 dX4_arcsBehind_9 (by decide))) (kSt_for (pu := 32) (pt := 15) (kCd_C (kE_iload_3 dX4_arcsBehind_10) (kE_iload_1 dX4_arcsBehind_11) (kJf_2 (tgt := 38) dX4_arcsBehind_12 (by decide))) (kSt_let (kE_bin (kE_iload_2 dX4_arcsBehind_15) (kE_if (kCd_Z (kE_zald (kE_get (kE_aload_0 dX4_arcsBehind_16) lf_RX4_15 dX4_arcsBehind_17) (kE_iload_3 dX4_arcsBehind_20) dX4_arcsBehind_21) (kZf_1 (tgt := 29) dX4_arcsBehind_22 (by decide))) (kE_goto (tgt := 30) (kE_ic_1 dX4_arcsBehind_25) dX4_arcsBehind_26 (by decide)) (kE_ic_m1 dX4_arcsBehind_29)) (kOp_add dX4_arcsBehind_30)) (kSet_istore_2 dX4_arcsBehind_31 (by decide))) (kSt_goto (tgt := 10) (kSt_inc dX4_arcsBehind_32 (by decide)) dX4_arcsBehind_35 (by decide)))))
  (kSt_ret (tag := 0) (kE_iload_2 dX4_arcsBehind_38) ⟨fun _ => dX4_arcsBehind_39, fun q => (by cases q), fun q => (by cases q)⟩)))
noncomputable def F_Plan_arcsBehind : kFn := kF 2 kI s_Plan_arcsBehind
theorem c_Plan_arcsBehind : kCon yX4_arcsBehind cX4_arcsBehind 4 (some .int) { frames := 0, cells := 0, slots := 0, locals := 0 } F_Plan_arcsBehind := kCon_of kEnds_I (by decide +kernel) (by decide) ⟨0, 0, 0, b_Plan_arcsBehind⟩
