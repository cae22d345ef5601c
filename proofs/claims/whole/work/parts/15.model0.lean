noncomputable def s_Md_thrown : kSx :=
  (sRet 0 (eGet 12 22 (eR 0)))
abbrev M_Md_thrown : kM := (cX12_thrown, yX12_thrown.cls, 1, { frames := 0, cells := 0, slots := 0, locals := 0 }, (some .int))
set_option maxRecDepth 20000 in
theorem b_Md_thrown : kSt M_Md_thrown 0 0 0 0 s_Md_thrown :=
  (kSt_ret (tag := 0) (kE_get (kE_aload_0 dX12_thrown_0) lf_RX12_136 dX12_thrown_1) ⟨fun _ => dX12_thrown_4, fun q => (by cases q), fun q => (by cases q)⟩)
noncomputable def F_Md_thrown : kFn := kF 1 kI s_Md_thrown
theorem c_Md_thrown : kCon yX12_thrown cX12_thrown 1 (some .int) { frames := 0, cells := 0, slots := 0, locals := 0 } F_Md_thrown := kCon_of kEnds_I (by decide +kernel) (by decide) ⟨0, 0, 0, b_Md_thrown⟩
noncomputable def s_Md_fail : kSx :=
  (sSeq (sPut 12 22 (eR 0) (eI 1))
  (sRet 0 (eK (0))))
abbrev M_Md_fail : kM := (cX12_fail, yX12_fail.cls, 2, { frames := 0, cells := 0, slots := 0, locals := 0 }, (some .int))
set_option maxRecDepth 20000 in
theorem b_Md_fail : kSt M_Md_fail 0 0 0 0 s_Md_fail :=
  (kSt_seq (p1 := 5) (kSt_put (kE_aload_0 dX12_fail_0) (kE_iload_1 dX12_fail_1) lp_RX12_136 dX12_fail_2)
  (kSt_ret (tag := 0) (kE_ic_0 dX12_fail_5) ⟨fun _ => dX12_fail_6, fun q => (by cases q), fun q => (by cases q)⟩))
noncomputable def F_Md_fail : kFn := kF 2 kI s_Md_fail
theorem c_Md_fail : kCon yX12_fail cX12_fail 2 (some .int) { frames := 0, cells := 0, slots := 0, locals := 0 } F_Md_fail := kCon_of kEnds_I (by decide +kernel) (by decide) ⟨0, 0, 0, b_Md_fail⟩
noncomputable def s_Md_isNode : kSx :=
  (sRet 0 (eIf (cAnd (cZ 3 (eI 1)) (cC 2 (eI 1) (eGet 12 1 (eR 0)))) (eK (1)) (eK (0))))
abbrev M_Md_isNode : kM := (cX12_isNode, yX12_isNode.cls, 2, { frames := 0, cells := 0, slots := 0, locals := 0 }, (some .boolean))
set_option maxRecDepth 20000 in
theorem b_Md_isNode : kSt M_Md_isNode 0 0 0 0 s_Md_isNode :=
  (kSt_ret (tag := 0) (kE_if (kCd_and (kCd_Z (kE_iload_1 dX12_isNode_0) (kZf_3 (tgt := 16) dX12_isNode_1 (by decide))) (kCd_C (kE_iload_1 dX12_isNode_4) (kE_get (kE_aload_0 dX12_isNode_5) lf_RX12_140 dX12_isNode_6) (kJf_2 (tgt := 16) dX12_isNode_9 (by decide)))) (kE_goto (tgt := 17) (kE_ic_1 dX12_isNode_12) dX12_isNode_13 (by decide)) (kE_ic_0 dX12_isNode_16)) ⟨fun _ => dX12_isNode_17, fun q => (by cases q), fun q => (by cases q)⟩)
noncomputable def F_Md_isNode : kFn := kF 2 kZ s_Md_isNode
theorem c_Md_isNode : kCon yX12_isNode cX12_isNode 2 (some .boolean) { frames := 0, cells := 0, slots := 0, locals := 0 } F_Md_isNode := kCon_of kEnds_Z (by decide +kernel) (by decide) ⟨0, 0, 0, b_Md_isNode⟩
noncomputable def s_Md_isArc : kSx :=
  (sRet 0 (eIf (cAnd (cAnd (cZ 3 (eI 1)) (cC 2 (eI 1) (eGet 12 3 (eR 0)))) (cZ 1 (eAld 1 (eGet 12 9 (eR 0)) (eI 1)))) (eK (1)) (eK (0))))
abbrev M_Md_isArc : kM := (cX12_isArc, yX12_isArc.cls, 2, { frames := 0, cells := 0, slots := 0, locals := 0 }, (some .boolean))
set_option maxRecDepth 20000 in
theorem b_Md_isArc : kSt M_Md_isArc 0 0 0 0 s_Md_isArc :=
  (kSt_ret (tag := 0) (kE_if (kCd_and (kCd_and (kCd_Z (kE_iload_1 dX12_isArc_0) (kZf_3 (tgt := 25) dX12_isArc_1 (by decide))) (kCd_C (kE_iload_1 dX12_isArc_4) (kE_get (kE_aload_0 dX12_isArc_5) lf_RX12_143 dX12_isArc_6) (kJf_2 (tgt := 25) dX12_isArc_9 (by decide)))) (kCd_Z (kE_zald (kE_get (kE_aload_0 dX12_isArc_12) lf_RX12_29 dX12_isArc_13) (kE_iload_1 dX12_isArc_16) dX12_isArc_17) (kZf_1 (tgt := 25) dX12_isArc_18 (by decide)))) (kE_goto (tgt := 26) (kE_ic_1 dX12_isArc_21) dX12_isArc_22 (by decide)) (kE_ic_0 dX12_isArc_25)) ⟨fun _ => dX12_isArc_26, fun q => (by cases q), fun q => (by cases q)⟩)
noncomputable def F_Md_isArc : kFn := kF 2 kZ s_Md_isArc
theorem c_Md_isArc : kCon yX12_isArc cX12_isArc 2 (some .boolean) { frames := 0, cells := 0, slots := 0, locals := 0 } F_Md_isArc := kCon_of kEnds_Z (by decide +kernel) (by decide) ⟨0, 0, 0, b_Md_isArc⟩
noncomputable def l_Md_walk_1 : kSx := sFor 6 (cC 2 (eI 5) (eGet 12 1 (eR 0)))
  (sSeq (sAst 1 (eGet 12 23 (eR 0)) (eI 5) (eK (0)))
  (sAst 0 (eGet 12 28 (eR 0)) (eI 5) (eK (-1))))
  (sInc 5 (1))
noncomputable def l_Md_walk_2 : kSx := sFor 6 (cZ 3 (eI 5))
  (sTrunc 6 (sSeq (sLet 0 6 (eAld 0 (eGet 12 11 (eR 0)) (eI 5)))
  (sSeq (sLet 0 7 (eIf (cAnd (cC 1 (eI 6) (eI 4)) (cIf (cZ 0 (eI 2)) (cAnd (cZ 1 (eAld 1 (eGet 12 7 (eR 0)) (eI 6))) (cC 3 (eAld 0 (eGet 12 6 (eR 0)) (eI 6)) (eI 3))) (cOr (cC 2 (eI 2) (eK (4))) (cNot (cZ 1 (eAld 1 (eGet 12 8 (eR 0)) (eI 6))))))) (eK (1)) (eK (0))))
  (sSeq (sIf (cNot (cZ 1 (eI 7))) sCont sSkip)
  (sSeq (sIf (cAnd (cC 1 (eI 2) (eK (3))) (cC 1 (eI 2) (eK (5)))) (sSeq (sAst 0 (eGet 12 29 (eR 0)) (eBin kMul (eK (2)) (eI 6)) (eAld 0 (eGet 12 28 (eR 0)) (eAld 0 (eGet 12 4 (eR 0)) (eI 6))))
  (sAst 0 (eGet 12 28 (eR 0)) (eAld 0 (eGet 12 4 (eR 0)) (eI 6)) (eBin kMul (eK (2)) (eI 6)))) sSkip)
  (sIf (cAnd (cC 1 (eI 2) (eK (2))) (cC 1 (eI 2) (eK (4)))) (sSeq (sAst 0 (eGet 12 29 (eR 0)) (eBin kAdd (eBin kMul (eK (2)) (eI 6)) (eK (1))) (eAld 0 (eGet 12 28 (eR 0)) (eAld 0 (eGet 12 5 (eR 0)) (eI 6))))
  (sAst 0 (eGet 12 28 (eR 0)) (eAld 0 (eGet 12 5 (eR 0)) (eI 6)) (eBin kAdd (eBin kMul (eK (2)) (eI 6)) (eK (1))))) sSkip))))))
  (sInc 5 (-1))
noncomputable def l_Md_walk_3 : kSx := sFor 8 (cC 1 (eI 7) (eK (-1)))
  (sTrunc 8 (sSeq (sLet 0 8 (eIf (cZ 0 (eBin kRem (eI 7) (eK (2)))) (eAld 0 (eGet 12 5 (eR 0)) (eBin kDiv (eI 7) (eK (2)))) (eAld 0 (eGet 12 4 (eR 0)) (eBin kDiv (eI 7) (eK (2))))))
  (sIf (cNot (cZ 1 (eAld 1 (eGet 12 23 (eR 0)) (eI 8)))) (sSeq (sAst 1 (eGet 12 23 (eR 0)) (eI 8) (eK (1)))
  (sSeq (sAst 0 (eGet 12 25 (eR 0)) (eI 8) (eI 7))
  (sSeq (sAst 0 (eGet 12 26 (eR 0)) (eI 8) (eBin kAdd (eAld 0 (eGet 12 26 (eR 0)) (eI 6)) (eK (1))))
  (sSeq (sAst 0 (eGet 12 24 (eR 0)) (eGet 12 27 (eR 0)) (eI 8))
  (sPutOp 12 27 (eR 0) kAdd (eK (1))))))) sSkip)))
  (sLet 0 7 (eAld 0 (eGet 12 29 (eR 0)) (eI 7)))
noncomputable def l_Md_walk_4 : kSx := sFor 6 (cC 2 (eI 5) (eGet 12 27 (eR 0)))
  (sTrunc 6 (sSeq (sLet 0 6 (eAld 0 (eGet 12 24 (eR 0)) (eI 5)))
  (sTrunc 7 (sSeq (sLet 0 7 (eAld 0 (eGet 12 28 (eR 0)) (eI 6))) l_Md_walk_3))))
  (sInc 5 (1))
noncomputable def s_Md_walk : kSx :=
  (sSeq (sSeq (sTrunc 5 (sSeq (sLet 0 5 (eK (0))) l_Md_walk_1))
  (sSeq (sTrunc 5 (sSeq (sLet 0 5 (eBin kSub (eGet 12 10 (eR 0)) (eK (1)))) l_Md_walk_2))
  (sSeq (sPut 12 27 (eR 0) (eK (1)))
  (sSeq (sAst 0 (eGet 12 24 (eR 0)) (eK (0)) (eI 1))
  (sSeq (sAst 1 (eGet 12 23 (eR 0)) (eI 1) (eK (1)))
  (sSeq (sAst 0 (eGet 12 25 (eR 0)) (eI 1) (eK (-1)))
  (sSeq (sAst 0 (eGet 12 26 (eR 0)) (eI 1) (eK (0)))
  (sTrunc 5 (sSeq (sLet 0 5 (eK (0))) l_Md_walk_4))))))))) sRetV)
abbrev M_Md_walk : kM := (cX12_walk, yX12_walk.cls, 9, { frames := 0, cells := 0, slots := 0, locals := 0 }, none)
set_option maxRecDepth 20000 in
theorem b_Md_walk : kSt M_Md_walk 0 0 0 0 s_Md_walk :=
  (kSt_seq (kSt_seq (p1 := 34) (kSt_trunc (kSt_seq (kSt_let (kE_ic_0 dX12_walk_0) (kSet_istore dX12_walk_1 (by decide))) (kSt_for (pu := 28) (pt := 12) (kCd_C (kE_iload dX12_walk_3) (kE_get (kE_aload_0 dX12_walk_5) lf_RX12_140 dX12_walk_6) (kJf_2 (tgt := 34) dX12_walk_9 (by decide))) (kSt_seq (p1 := 20) (kSt_zast (kE_get (kE_aload_0 dX12_walk_12) lf_RX12_56 dX12_walk_13) (kE_iload dX12_walk_16) (kE_ic_0 dX12_walk_18) dX12_walk_19)
  (kSt_iast (kE_get (kE_aload_0 dX12_walk_20) lf_RX12_68 dX12_walk_21) (kE_iload dX12_walk_24) (kE_ic_m1 dX12_walk_26) dX12_walk_27)) (kSt_goto (tgt := 3) (kSt_inc dX12_walk_28 (by decide)) dX12_walk_31 (by decide)))))
  (kSt_seq (p1 := 225) (kSt_trunc (kSt_seq (kSt_let (kE_bin (kE_get (kE_aload_0 dX12_walk_34) lf_RX12_146 dX12_walk_35) (kE_ic_1 dX12_walk_38) (kOp_sub dX12_walk_39)) (kSet_istore dX12_walk_40 (by decide))) (kSt_for (pu := 219) (pt := 47) (kCd_Z (kE_iload dX12_walk_42) (kZf_3 (tgt := 225) dX12_walk_44 (by decide))) (kSt_trunc (kSt_seq (p1 := 56) (kSt_let (kE_iald (kE_get (kE_aload_0 dX12_walk_47) lf_RX12_32 dX12_walk_48) (kE_iload dX12_walk_51) dX12_walk_53) (kSet_istore dX12_walk_54 (by decide)))
  (kSt_seq (p1 := 113) (kSt_let (kE_if (kCd_and (kCd_C (kE_iload dX12_walk_56) (kE_iload dX12_walk_58) (kJf_1 (tgt := 110) dX12_walk_60 (by decide))) (kCd_if (kCd_Z (kE_iload_2 dX12_walk_63) (kZf_0 (tgt := 91) dX12_walk_64 (by decide))) (kCd_gt (tgt := 106) (kCd_and (kCd_Z (kE_zald (kE_get (kE_aload_0 dX12_walk_67) lf_RX12_22 dX12_walk_68) (kE_iload dX12_walk_71) dX12_walk_73) (kZf_1 (tgt := 110) dX12_walk_74 (by decide))) (kCd_C (kE_iald (kE_get (kE_aload_0 dX12_walk_77) lf_RX12_19 dX12_walk_78) (kE_iload dX12_walk_81) dX12_walk_83) (kE_iload_3 dX12_walk_84) (kJf_3 (tgt := 110) dX12_walk_85 (by decide)))) dX12_walk_88 (by decide)) (kCd_or (kCd_C (kE_iload_2 dX12_walk_91) (kE_ic_4 dX12_walk_92) (kJt_2 (tgt := 106) dX12_walk_93 (by decide))) (kCd_not (kCd_Z (kE_zald (kE_get (kE_aload_0 dX12_walk_96) lf_RX12_26 dX12_walk_97) (kE_iload dX12_walk_100) dX12_walk_102) (kZt_1 (tgt := 110) dX12_walk_103 (by decide))))))) (kE_goto (tgt := 111) (kE_ic_1 dX12_walk_106) dX12_walk_107 (by decide)) (kE_ic_0 dX12_walk_110)) (kSet_istore dX12_walk_111 (by decide)))
  (kSt_seq (p1 := 121) (kSt_if (kCd_not (kCd_Z (kE_iload dX12_walk_113) (kZt_1 (tgt := 121) dX12_walk_115 (by decide)))) (kSt_contG (tgt := 219) dX12_walk_118 (by decide)) kSt_skip)
  (kSt_seq (p1 := 168) (kSt_if (kCd_and (kCd_C (kE_iload_2 dX12_walk_121) (kE_ic_3 dX12_walk_122) (kJf_1 (tgt := 168) dX12_walk_123 (by decide))) (kCd_C (kE_iload_2 dX12_walk_126) (kE_ic_5 dX12_walk_127) (kJf_1 (tgt := 168) dX12_walk_128 (by decide)))) (kSt_seq (p1 := 152) (kSt_iast (kE_get (kE_aload_0 dX12_walk_131) lf_RX12_71 dX12_walk_132) (kE_bin (kE_ic_2 dX12_walk_135) (kE_iload dX12_walk_136) (kOp_mul dX12_walk_138)) (kE_iald (kE_get (kE_aload_0 dX12_walk_139) lf_RX12_68 dX12_walk_140) (kE_iald (kE_get (kE_aload_0 dX12_walk_143) lf_RX12_13 dX12_walk_144) (kE_iload dX12_walk_147) dX12_walk_149) dX12_walk_150) dX12_walk_151)
  (kSt_iast (kE_get (kE_aload_0 dX12_walk_152) lf_RX12_68 dX12_walk_153) (kE_iald (kE_get (kE_aload_0 dX12_walk_156) lf_RX12_13 dX12_walk_157) (kE_iload dX12_walk_160) dX12_walk_162) (kE_bin (kE_ic_2 dX12_walk_163) (kE_iload dX12_walk_164) (kOp_mul dX12_walk_166)) dX12_walk_167)) kSt_skip)
  (kSt_if (kCd_and (kCd_C (kE_iload_2 dX12_walk_168) (kE_ic_2 dX12_walk_169) (kJf_1 (tgt := 219) dX12_walk_170 (by decide))) (kCd_C (kE_iload_2 dX12_walk_173) (kE_ic_4 dX12_walk_174) (kJf_1 (tgt := 219) dX12_walk_175 (by decide)))) (kSt_seq (p1 := 201) (kSt_iast (kE_get (kE_aload_0 dX12_walk_178) lf_RX12_71 dX12_walk_179) (kE_bin (kE_bin (kE_ic_2 dX12_walk_182) (kE_iload dX12_walk_183) (kOp_mul dX12_walk_185)) (kE_ic_1 dX12_walk_186) (kOp_add dX12_walk_187)) (kE_iald (kE_get (kE_aload_0 dX12_walk_188) lf_RX12_68 dX12_walk_189) (kE_iald (kE_get (kE_aload_0 dX12_walk_192) lf_RX12_16 dX12_walk_193) (kE_iload dX12_walk_196) dX12_walk_198) dX12_walk_199) dX12_walk_200)
  (kSt_iast (kE_get (kE_aload_0 dX12_walk_201) lf_RX12_68 dX12_walk_202) (kE_iald (kE_get (kE_aload_0 dX12_walk_205) lf_RX12_16 dX12_walk_206) (kE_iload dX12_walk_209) dX12_walk_211) (kE_bin (kE_bin (kE_ic_2 dX12_walk_212) (kE_iload dX12_walk_213) (kOp_mul dX12_walk_215)) (kE_ic_1 dX12_walk_216) (kOp_add dX12_walk_217)) dX12_walk_218)) kSt_skip)))))) (kSt_goto (tgt := 42) (kSt_inc dX12_walk_219 (by decide)) dX12_walk_222 (by decide)))))
  (kSt_seq (p1 := 230) (kSt_put (kE_aload_0 dX12_walk_225) (kE_ic_1 dX12_walk_226) lp_RX12_149 dX12_walk_227)
  (kSt_seq (p1 := 237) (kSt_iast (kE_get (kE_aload_0 dX12_walk_230) lf_RX12_59 dX12_walk_231) (kE_ic_0 dX12_walk_234) (kE_iload_1 dX12_walk_235) dX12_walk_236)
  (kSt_seq (p1 := 244) (kSt_zast (kE_get (kE_aload_0 dX12_walk_237) lf_RX12_56 dX12_walk_238) (kE_iload_1 dX12_walk_241) (kE_ic_1 dX12_walk_242) dX12_walk_243)
  (kSt_seq (p1 := 251) (kSt_iast (kE_get (kE_aload_0 dX12_walk_244) lf_RX12_62 dX12_walk_245) (kE_iload_1 dX12_walk_248) (kE_ic_m1 dX12_walk_249) dX12_walk_250)
  (kSt_seq (p1 := 258) (kSt_iast (kE_get (kE_aload_0 dX12_walk_251) lf_RX12_65 dX12_walk_252) (kE_iload_1 dX12_walk_255) (kE_ic_0 dX12_walk_256) dX12_walk_257)
  (kSt_trunc (kSt_seq (kSt_let (kE_ic_0 dX12_walk_258) (kSet_istore dX12_walk_259 (by decide))) (kSt_for (pu := 400) (pt := 270) (kCd_C (kE_iload dX12_walk_261) (kE_get (kE_aload_0 dX12_walk_263) lf_RX12_149 dX12_walk_264) (kJf_2 (tgt := 406) dX12_walk_267 (by decide))) (kSt_trunc (kSt_seq (p1 := 279) (kSt_let (kE_iald (kE_get (kE_aload_0 dX12_walk_270) lf_RX12_59 dX12_walk_271) (kE_iload dX12_walk_274) dX12_walk_276) (kSet_istore dX12_walk_277 (by decide)))
  (kSt_trunc (kSt_seq (kSt_let (kE_iald (kE_get (kE_aload_0 dX12_walk_279) lf_RX12_68 dX12_walk_280) (kE_iload dX12_walk_283) dX12_walk_285) (kSet_istore dX12_walk_286 (by decide))) (kSt_for (pu := 388) (pt := 294) (kCd_C (kE_iload dX12_walk_288) (kE_ic_m1 dX12_walk_290) (kJf_1 (tgt := 400) dX12_walk_291 (by decide))) (kSt_trunc (kSt_seq (p1 := 324) (kSt_let (kE_if (kCd_Z (kE_bin (kE_iload dX12_walk_294) (kE_ic_2 dX12_walk_296) (kOp_rem dX12_walk_297)) (kZf_0 (tgt := 313) dX12_walk_298 (by decide))) (kE_goto (tgt := 322) (kE_iald (kE_get (kE_aload_0 dX12_walk_301) lf_RX12_16 dX12_walk_302) (kE_bin (kE_iload dX12_walk_305) (kE_ic_2 dX12_walk_307) (kOp_div dX12_walk_308)) dX12_walk_309) dX12_walk_310 (by decide)) (kE_iald (kE_get (kE_aload_0 dX12_walk_313) lf_RX12_13 dX12_walk_314) (kE_bin (kE_iload dX12_walk_317) (kE_ic_2 dX12_walk_319) (kOp_div dX12_walk_320)) dX12_walk_321)) (kSet_istore dX12_walk_322 (by decide)))
  (kSt_if (kCd_not (kCd_Z (kE_zald (kE_get (kE_aload_0 dX12_walk_324) lf_RX12_56 dX12_walk_325) (kE_iload dX12_walk_328) dX12_walk_330) (kZt_1 (tgt := 388) dX12_walk_331 (by decide)))) (kSt_seq (p1 := 342) (kSt_zast (kE_get (kE_aload_0 dX12_walk_334) lf_RX12_56 dX12_walk_335) (kE_iload dX12_walk_338) (kE_ic_1 dX12_walk_340) dX12_walk_341)
  (kSt_seq (p1 := 351) (kSt_iast (kE_get (kE_aload_0 dX12_walk_342) lf_RX12_62 dX12_walk_343) (kE_iload dX12_walk_346) (kE_iload dX12_walk_348) dX12_walk_350)
  (kSt_seq (p1 := 367) (kSt_iast (kE_get (kE_aload_0 dX12_walk_351) lf_RX12_65 dX12_walk_352) (kE_iload dX12_walk_355) (kE_bin (kE_iald (kE_get (kE_aload_0 dX12_walk_357) lf_RX12_65 dX12_walk_358) (kE_iload dX12_walk_361) dX12_walk_363) (kE_ic_1 dX12_walk_364) (kOp_add dX12_walk_365)) dX12_walk_366)
  (kSt_seq (p1 := 378) (kSt_iast (kE_get (kE_aload_0 dX12_walk_367) lf_RX12_59 dX12_walk_368) (kE_get (kE_aload_0 dX12_walk_371) lf_RX12_149 dX12_walk_372) (kE_iload dX12_walk_375) dX12_walk_377)
  (kSt_putOp (kE_aload_0 dX12_walk_378) dX12_walk_379 lf_RX12_149 dX12_walk_380 (kE_ic_1 dX12_walk_383) (kOp_add dX12_walk_384) lp_RX12_149 dX12_walk_385))))) kSt_skip))) (kSt_goto (tgt := 288) (kSt_let (kE_iald (kE_get (kE_aload_0 dX12_walk_388) lf_RX12_71 dX12_walk_389) (kE_iload dX12_walk_392) dX12_walk_394) (kSet_istore dX12_walk_395 (by decide))) dX12_walk_397 (by decide))))))) (kSt_goto (tgt := 261) (kSt_inc dX12_walk_400 (by decide)) dX12_walk_403 (by decide)))))))))))) (kSt_retV dX12_walk_406))
noncomputable def F_Md_walk : kFn := kF 5 kN s_Md_walk
theorem c_Md_walk : kCon yX12_walk cX12_walk 9 none { frames := 0, cells := 0, slots := 0, locals := 0 } F_Md_walk := kCon_of kEnds_V (by decide +kernel) (by decide) ⟨0, 0, 0, b_Md_walk⟩
noncomputable def l_Md_leastMet_1 : kSx := sFor 3 (cC 2 (eI 2) (eGet 12 27 (eR 0)))
  (sLet 0 1 (eIf (cC 2 (eAld 0 (eGet 12 24 (eR 0)) (eI 2)) (eI 1)) (eAld 0 (eGet 12 24 (eR 0)) (eI 2)) (eI 1)))
  (sInc 2 (1))
noncomputable def s_Md_leastMet : kSx :=
  (sSeq (sLet 0 1 (eK (300)))
  (sSeq (sTrunc 2 (sSeq (sLet 0 2 (eK (0))) l_Md_leastMet_1))
  (sRet 0 (eI 1))))
abbrev M_Md_leastMet : kM := (cX12_leastMet, yX12_leastMet.cls, 3, { frames := 0, cells := 0, slots := 0, locals := 0 }, (some .int))
set_option maxRecDepth 20000 in
theorem b_Md_leastMet : kSt M_Md_leastMet 0 0 0 0 s_Md_leastMet :=
  (kSt_seq (p1 := 4) (kSt_let (kE_sipush dX12_leastMet_0 (by rfl) ⟨by decide, by decide⟩) (kSet_istore_1 dX12_leastMet_3 (by decide)))
  (kSt_seq (p1 := 41) (kSt_trunc (kSt_seq (kSt_let (kE_ic_0 dX12_leastMet_4) (kSet_istore_2 dX12_leastMet_5 (by decide))) (kSt_for (pu := 35) (pt := 14) (kCd_C (kE_iload_2 dX12_leastMet_6) (kE_get (kE_aload_0 dX12_leastMet_7) lf_RX12_149 dX12_leastMet_8) (kJf_2 (tgt := 41) dX12_leastMet_11 (by decide))) (kSt_let (kE_if (kCd_C (kE_iald (kE_get (kE_aload_0 dX12_leastMet_14) lf_RX12_59 dX12_leastMet_15) (kE_iload_2 dX12_leastMet_18) dX12_leastMet_19) (kE_iload_1 dX12_leastMet_20) (kJf_2 (tgt := 33) dX12_leastMet_21 (by decide))) (kE_goto (tgt := 34) (kE_iald (kE_get (kE_aload_0 dX12_leastMet_24) lf_RX12_59 dX12_leastMet_25) (kE_iload_2 dX12_leastMet_28) dX12_leastMet_29) dX12_leastMet_30 (by decide)) (kE_iload_1 dX12_leastMet_33)) (kSet_istore_1 dX12_leastMet_34 (by decide))) (kSt_goto (tgt := 6) (kSt_inc dX12_leastMet_35 (by decide)) dX12_leastMet_38 (by decide)))))
  (kSt_ret (tag := 0) (kE_iload_1 dX12_leastMet_41) ⟨fun _ => dX12_leastMet_42, fun q => (by cases q), fun q => (by cases q)⟩)))
noncomputable def F_Md_leastMet : kFn := kF 1 kI s_Md_leastMet
theorem c_Md_leastMet : kCon yX12_leastMet cX12_leastMet 3 (some .int) { frames := 0, cells := 0, slots := 0, locals := 0 } F_Md_leastMet := kCon_of kEnds_I (by decide +kernel) (by decide) ⟨0, 0, 0, b_Md_leastMet⟩
noncomputable def s_Md_partOf : kSx :=
  (sSeq (sCall 12 F_Md_walk (eSnoc (eSnoc (eSnoc (eSnoc (eSnoc eNil (eR 0)) (eI 1)) (eK (1))) (eK (0))) (eK (-1))))
  (sRet 0 (eCall 12 F_Md_leastMet (eSnoc eNil (eR 0)))))
abbrev M_Md_partOf : kM := (cX12_partOf, yX12_partOf.cls, 2, { frames := 1, cells := 0, slots := 0, locals := 28 }, (some .int))
set_option maxRecDepth 20000 in
theorem b_Md_partOf : kSt M_Md_partOf 0 0 0 0 s_Md_partOf :=
  (kSt_seq (p1 := 8) (kSt_call (kEs_snoc (kEs_snoc (kEs_snoc (kEs_snoc (kEs_snoc kEs_nil (kE_aload_0 dX12_partOf_0)) (kE_iload_1 dX12_partOf_1)) (kE_ic_1 dX12_partOf_2)) (kE_ic_0 dX12_partOf_3)) (kE_ic_m1 dX12_partOf_4)) dX12_partOf_5 c_Md_walk mv_Md_walk lm_RX12_152 ⟨rfl, rfl, by decide, by decide⟩)
  (kSt_ret (tag := 0) (kE_call (kEs_snoc kEs_nil (kE_aload_0 dX12_partOf_8)) dX12_partOf_9 c_Md_leastMet mv_Md_leastMet lm_RX12_156 ⟨rfl, rfl, by decide, by decide⟩ (by decide)) ⟨fun _ => dX12_partOf_12, fun q => (by cases q), fun q => (by cases q)⟩))
noncomputable def F_Md_partOf : kFn := kF 2 kI s_Md_partOf
theorem c_Md_partOf : kCon yX12_partOf cX12_partOf 2 (some .int) { frames := 1, cells := 0, slots := 0, locals := 28 } F_Md_partOf := kCon_of kEnds_I (by decide +kernel) (by decide) ⟨0, 0, 0, b_Md_partOf⟩
noncomputable def l_Md_partsNow_1 : kSx := sFor 3 (cC 2 (eI 2) (eGet 12 1 (eR 0)))
  (sLet 0 1 (eBin kAdd (eI 1) (eIf (cC 0 (eCall 12 F_Md_partOf (eSnoc (eSnoc eNil (eR 0)) (eI 2))) (eI 2)) (eK (1)) (eK (0)))))
  (sInc 2 (1))
noncomputable def s_Md_partsNow : kSx :=
  (sSeq (sLet 0 1 (eK (0)))
  (sSeq (sTrunc 2 (sSeq (sLet 0 2 (eK (0))) l_Md_partsNow_1))
  (sRet 0 (eI 1))))
abbrev M_Md_partsNow : kM := (cX12_partsNow, yX12_partsNow.cls, 3, { frames := 2, cells := 0, slots := 0, locals := 49 }, (some .int))
set_option maxRecDepth 20000 in
theorem b_Md_partsNow : kSt M_Md_partsNow 0 0 0 0 s_Md_partsNow :=
  (kSt_seq (p1 := 2) (kSt_let (kE_ic_0 dX12_partsNow_0) (kSet_istore_1 dX12_partsNow_1 (by decide)))
  (kSt_seq (p1 := 35) (kSt_trunc (kSt_seq (kSt_let (kE_ic_0 dX12_partsNow_2) (kSet_istore_2 dX12_partsNow_3 (by decide))) (kSt_for (pu := 29) (pt := 12) (kCd_C (kE_iload_2 dX12_partsNow_4) (kE_get (kE_aload_0 dX12_partsNow_5) lf_RX12_140 dX12_partsNow_6) (kJf_2 (tgt := 35) dX12_partsNow_9 (by decide))) (kSt_let (kE_bin (kE_iload_1 dX12_partsNow_12) (kE_if (kCd_C (kE_call (kEs_snoc (kEs_snoc kEs_nil (kE_aload_0 dX12_partsNow_13)) (kE_iload_2 dX12_partsNow_14)) dX12_partsNow_15 c_Md_partOf mv_Md_partOf lm_RX12_160 ⟨rfl, rfl, by decide, by decide⟩ (by decide)) (kE_iload_2 dX12_partsNow_18) (kJf_0 (tgt := 26) dX12_partsNow_19 (by decide))) (kE_goto (tgt := 27) (kE_ic_1 dX12_partsNow_22) dX12_partsNow_23 (by decide)) (kE_ic_0 dX12_partsNow_26)) (kOp_add dX12_partsNow_27)) (kSet_istore_1 dX12_partsNow_28 (by decide))) (kSt_goto (tgt := 4) (kSt_inc dX12_partsNow_29 (by decide)) dX12_partsNow_32 (by decide)))))
  (kSt_ret (tag := 0) (kE_iload_1 dX12_partsNow_35) ⟨fun _ => dX12_partsNow_36, fun q => (by cases q), fun q => (by cases q)⟩)))
noncomputable def F_Md_partsNow : kFn := kF 1 kI s_Md_partsNow
theorem c_Md_partsNow : kCon yX12_partsNow cX12_partsNow 3 (some .int) { frames := 2, cells := 0, slots := 0, locals := 49 } F_Md_partsNow := kCon_of kEnds_I (by decide +kernel) (by decide) ⟨0, 0, 0, b_Md_partsNow⟩
noncomputable def s_Md_one : kSx :=
  (sSeq (sAst 0 (eGet 12 2 (eR 0)) (eGet 12 1 (eR 0)) (eI 1))
  (sSeq (sAst 0 (eGet 12 12 (eR 0)) (eGet 12 1 (eR 0)) (eGet 12 1 (eR 0)))
  (sSeq (sAst 0 (eGet 12 13 (eR 0)) (eGet 12 1 (eR 0)) (eGet 12 1 (eR 0)))
  (sSeq (sPutOp 12 1 (eR 0) kAdd (eK (1)))
  (sRet 0 (eBin kSub (eGet 12 1 (eR 0)) (eK (1))))))))
abbrev M_Md_one : kM := (cX12_one, yX12_one.cls, 2, { frames := 0, cells := 0, slots := 0, locals := 0 }, (some .int))
set_option maxRecDepth 20000 in
theorem b_Md_one : kSt M_Md_one 0 0 0 0 s_Md_one :=
  (kSt_seq (p1 := 10) (kSt_iast (kE_get (kE_aload_0 dX12_one_0) lf_RX12_7 dX12_one_1) (kE_get (kE_aload_0 dX12_one_4) lf_RX12_140 dX12_one_5) (kE_iload_1 dX12_one_8) dX12_one_9)
  (kSt_seq (p1 := 23) (kSt_iast (kE_get (kE_aload_0 dX12_one_10) lf_RX12_35 dX12_one_11) (kE_get (kE_aload_0 dX12_one_14) lf_RX12_140 dX12_one_15) (kE_get (kE_aload_0 dX12_one_18) lf_RX12_140 dX12_one_19) dX12_one_22)
  (kSt_seq (p1 := 36) (kSt_iast (kE_get (kE_aload_0 dX12_one_23) lf_RX12_38 dX12_one_24) (kE_get (kE_aload_0 dX12_one_27) lf_RX12_140 dX12_one_28) (kE_get (kE_aload_0 dX12_one_31) lf_RX12_140 dX12_one_32) dX12_one_35)
  (kSt_seq (p1 := 46) (kSt_putOp (kE_aload_0 dX12_one_36) dX12_one_37 lf_RX12_140 dX12_one_38 (kE_ic_1 dX12_one_41) (kOp_add dX12_one_42) lp_RX12_140 dX12_one_43)
  (kSt_ret (tag := 0) (kE_bin (kE_get (kE_aload_0 dX12_one_46) lf_RX12_140 dX12_one_47) (kE_ic_1 dX12_one_50) (kOp_sub dX12_one_51)) ⟨fun _ => dX12_one_52, fun q => (by cases q), fun q => (by cases q)⟩)))))
noncomputable def F_Md_one : kFn := kF 2 kI s_Md_one
theorem c_Md_one : kCon yX12_one cX12_one 2 (some .int) { frames := 0, cells := 0, slots := 0, locals := 0 } F_Md_one := kCon_of kEnds_I (by decide +kernel) (by decide) ⟨0, 0, 0, b_Md_one⟩
noncomputable def s_Md_node : kSx :=
  (sSeq (sPut 12 22 (eR 0) (eK (0)))
  (sSeq (sIf (cC 0 (eGet 12 1 (eR 0)) (eK (300))) (sRet 0 (eCall 12 F_Md_fail (eSnoc (eSnoc eNil (eR 0)) (eK (1))))) sSkip)
  (sSeq (sPut 12 17 (eR 0) (eK (0)))
  (sRet 0 (eCall 12 F_Md_one (eSnoc (eSnoc eNil (eR 0)) (eI 1)))))))
abbrev M_Md_node : kM := (cX12_node, yX12_node.cls, 2, { frames := 1, cells := 0, slots := 0, locals := 21 }, (some .int))
set_option maxRecDepth 20000 in
theorem b_Md_node : kSt M_Md_node 0 0 0 0 s_Md_node :=
  (kSt_seq (p1 := 5) (kSt_put (kE_aload_0 dX12_node_0) (kE_ic_0 dX12_node_1) lp_RX12_136 dX12_node_2)
  (kSt_seq (p1 := 21) (kSt_if (kCd_C (kE_get (kE_aload_0 dX12_node_5) lf_RX12_140 dX12_node_6) (kE_sipush dX12_node_9 (by rfl) ⟨by decide, by decide⟩) (kJf_0 (tgt := 21) dX12_node_12 (by decide))) (kSt_ret (tag := 0) (kE_call (kEs_snoc (kEs_snoc kEs_nil (kE_aload_0 dX12_node_15)) (kE_ic_1 dX12_node_16)) dX12_node_17 c_Md_fail mv_Md_fail lm_RX12_164 ⟨rfl, rfl, by decide, by decide⟩ (by decide)) ⟨fun _ => dX12_node_20, fun q => (by cases q), fun q => (by cases q)⟩) kSt_skip)
  (kSt_seq (p1 := 26) (kSt_put (kE_aload_0 dX12_node_21) (kE_ic_0 dX12_node_22) lp_RX12_167 dX12_node_23)
  (kSt_ret (tag := 0) (kE_call (kEs_snoc (kEs_snoc kEs_nil (kE_aload_0 dX12_node_26)) (kE_iload_1 dX12_node_27)) dX12_node_28 c_Md_one mv_Md_one lm_RX12_170 ⟨rfl, rfl, by decide, by decide⟩ (by decide)) ⟨fun _ => dX12_node_31, fun q => (by cases q), fun q => (by cases q)⟩))))
noncomputable def F_Md_node : kFn := kF 2 kI s_Md_node
theorem c_Md_node : kCon yX12_node cX12_node 2 (some .int) { frames := 1, cells := 0, slots := 0, locals := 21 } F_Md_node := kCon_of kEnds_I (by decide +kernel) (by decide) ⟨0, 0, 0, b_Md_node⟩
noncomputable def l_Md_tellRing_1 : kSx := sFor 6 (cAnd (cC 2 (eI 5) (eGet 12 10 (eR 0))) (cC 0 (eI 4) (eK (-1))))
  (sTrunc 6 (sSeq (sLet 0 6 (eAld 0 (eGet 12 11 (eR 0)) (eI 5)))
  (sLet 0 4 (eIf (cAnd (cAnd (cAnd (cNot (cZ 1 (eAld 1 (eGet 12 8 (eR 0)) (eI 6)))) (cC 0 (eAld 0 (eGet 12 4 (eR 0)) (eI 6)) (eI 3))) (cZ 1 (eAld 1 (eGet 12 23 (eR 0)) (eAld 0 (eGet 12 5 (eR 0)) (eI 6))))) (cC 0 (eAld 0 (eGet 12 26 (eR 0)) (eAld 0 (eGet 12 5 (eR 0)) (eI 6))) (eBin kSub (eAld 0 (eGet 12 26 (eR 0)) (eI 3)) (eK (1))))) (eI 6) (eK (-1))))))
  (sInc 5 (1))
noncomputable def l_Md_tellRing_2 : kSx := sFor 4 (cC 1 (eI 3) (eI 1))
  (sTrunc 4 (sSeq (sLet 0 4 (eK (-1)))
  (sSeq (sTrunc 5 (sSeq (sLet 0 5 (eK (0))) l_Md_tellRing_1))
  (sSeq (sAst 0 (eGet 12 15 (eR 0)) (eGet 12 14 (eR 0)) (eI 4))
  (sSeq (sPutOp 12 14 (eR 0) kAdd (eK (1)))
  (sLet 0 3 (eAld 0 (eGet 12 5 (eR 0)) (eI 4))))))))
  sSkip
noncomputable def s_Md_tellRing : kSx :=
  (sSeq (sSeq (sPut 12 14 (eR 0) (eK (0)))
  (sSeq (sIf (cC 0 (eI 1) (eI 2)) sRetV sSkip)
  (sSeq (sCall 12 F_Md_walk (eSnoc (eSnoc (eSnoc (eSnoc (eSnoc eNil (eR 0)) (eI 1)) (eK (5))) (eK (0))) (eK (-1))))
  (sSeq (sLet 0 3 (eI 2))
  l_Md_tellRing_2)))) sRetV)
abbrev M_Md_tellRing : kM := (cX12_tellRing, yX12_tellRing.cls, 7, { frames := 1, cells := 0, slots := 0, locals := 28 }, none)
set_option maxRecDepth 20000 in
theorem b_Md_tellRing : kSt M_Md_tellRing 0 0 0 0 s_Md_tellRing :=
  (kSt_seq (kSt_seq (p1 := 5) (kSt_put (kE_aload_0 dX12_tellRing_0) (kE_ic_0 dX12_tellRing_1) lp_RX12_197 dX12_tellRing_2)
  (kSt_seq (p1 := 11) (kSt_if (kCd_C (kE_iload_1 dX12_tellRing_5) (kE_iload_2 dX12_tellRing_6) (kJf_0 (tgt := 11) dX12_tellRing_7 (by decide))) (kSt_retV dX12_tellRing_10) kSt_skip)
  (kSt_seq (p1 := 19) (kSt_call (kEs_snoc (kEs_snoc (kEs_snoc (kEs_snoc (kEs_snoc kEs_nil (kE_aload_0 dX12_tellRing_11)) (kE_iload_1 dX12_tellRing_12)) (kE_ic_5 dX12_tellRing_13)) (kE_ic_0 dX12_tellRing_14)) (kE_ic_m1 dX12_tellRing_15)) dX12_tellRing_16 c_Md_walk mv_Md_walk lm_RX12_152 ⟨rfl, rfl, by decide, by decide⟩)
  (kSt_seq (p1 := 21) (kSt_let (kE_iload_2 dX12_tellRing_19) (kSet_istore_3 dX12_tellRing_20 (by decide)))
  (kSt_for (pu := 21) (pt := 26) (kCd_C (kE_iload_3 dX12_tellRing_21) (kE_iload_1 dX12_tellRing_22) (kJf_1 (tgt := 161) dX12_tellRing_23 (by decide))) (kSt_goto (tgt := 21) (kSt_trunc (kSt_seq (p1 := 29) (kSt_let (kE_ic_m1 dX12_tellRing_26) (kSet_istore dX12_tellRing_27 (by decide)))
  (kSt_seq (p1 := 129) (kSt_trunc (kSt_seq (kSt_let (kE_ic_0 dX12_tellRing_29) (kSet_istore dX12_tellRing_30 (by decide))) (kSt_for (pu := 123) (pt := 47) (kCd_and (kCd_C (kE_iload dX12_tellRing_32) (kE_get (kE_aload_0 dX12_tellRing_34) lf_RX12_146 dX12_tellRing_35) (kJf_2 (tgt := 129) dX12_tellRing_38 (by decide))) (kCd_C (kE_iload dX12_tellRing_41) (kE_ic_m1 dX12_tellRing_43) (kJf_0 (tgt := 129) dX12_tellRing_44 (by decide)))) (kSt_trunc (kSt_seq (p1 := 56) (kSt_let (kE_iald (kE_get (kE_aload_0 dX12_tellRing_47) lf_RX12_32 dX12_tellRing_48) (kE_iload dX12_tellRing_51) dX12_tellRing_53) (kSet_istore dX12_tellRing_54 (by decide)))
  (kSt_let (kE_if (kCd_and (kCd_and (kCd_and (kCd_not (kCd_Z (kE_zald (kE_get (kE_aload_0 dX12_tellRing_56) lf_RX12_26 dX12_tellRing_57) (kE_iload dX12_tellRing_60) dX12_tellRing_62) (kZt_1 (tgt := 120) dX12_tellRing_63 (by decide)))) (kCd_C (kE_iald (kE_get (kE_aload_0 dX12_tellRing_66) lf_RX12_13 dX12_tellRing_67) (kE_iload dX12_tellRing_70) dX12_tellRing_72) (kE_iload_3 dX12_tellRing_73) (kJf_0 (tgt := 120) dX12_tellRing_74 (by decide)))) (kCd_Z (kE_zald (kE_get (kE_aload_0 dX12_tellRing_77) lf_RX12_56 dX12_tellRing_78) (kE_iald (kE_get (kE_aload_0 dX12_tellRing_81) lf_RX12_16 dX12_tellRing_82) (kE_iload dX12_tellRing_85) dX12_tellRing_87) dX12_tellRing_88) (kZf_1 (tgt := 120) dX12_tellRing_89 (by decide)))) (kCd_C (kE_iald (kE_get (kE_aload_0 dX12_tellRing_92) lf_RX12_65 dX12_tellRing_93) (kE_iald (kE_get (kE_aload_0 dX12_tellRing_96) lf_RX12_16 dX12_tellRing_97) (kE_iload dX12_tellRing_100) dX12_tellRing_102) dX12_tellRing_103) (kE_bin (kE_iald (kE_get (kE_aload_0 dX12_tellRing_104) lf_RX12_65 dX12_tellRing_105) (kE_iload_3 dX12_tellRing_108) dX12_tellRing_109) (kE_ic_1 dX12_tellRing_110) (kOp_sub dX12_tellRing_111)) (kJf_0 (tgt := 120) dX12_tellRing_112 (by decide)))) (kE_goto (tgt := 121) (kE_iload dX12_tellRing_115) dX12_tellRing_117 (by decide)) (kE_ic_m1 dX12_tellRing_120)) (kSet_istore dX12_tellRing_121 (by decide))))) (kSt_goto (tgt := 32) (kSt_inc dX12_tellRing_123 (by decide)) dX12_tellRing_126 (by decide)))))
  (kSt_seq (p1 := 140) (kSt_iast (kE_get (kE_aload_0 dX12_tellRing_129) lf_RX12_41 dX12_tellRing_130) (kE_get (kE_aload_0 dX12_tellRing_133) lf_RX12_197 dX12_tellRing_134) (kE_iload dX12_tellRing_137) dX12_tellRing_139)
  (kSt_seq (p1 := 150) (kSt_putOp (kE_aload_0 dX12_tellRing_140) dX12_tellRing_141 lf_RX12_197 dX12_tellRing_142 (kE_ic_1 dX12_tellRing_145) (kOp_add dX12_tellRing_146) lp_RX12_197 dX12_tellRing_147)
  (kSt_let (kE_iald (kE_get (kE_aload_0 dX12_tellRing_150) lf_RX12_16 dX12_tellRing_151) (kE_iload dX12_tellRing_154) dX12_tellRing_156) (kSet_istore_3 dX12_tellRing_157 (by decide)))))))) dX12_tellRing_158 (by decide)) kSt_skip))))) (kSt_retV dX12_tellRing_161))
noncomputable def F_Md_tellRing : kFn := kF 3 kN s_Md_tellRing
theorem c_Md_tellRing : kCon yX12_tellRing cX12_tellRing 7 none { frames := 1, cells := 0, slots := 0, locals := 28 } F_Md_tellRing := kCon_of kEnds_V (by decide +kernel) (by decide) ⟨0, 0, 0, b_Md_tellRing⟩
noncomputable def l_Md_neighbours_1 : kSx := sFor 3 (cC 2 (eI 2) (eGet 12 1 (eR 0)))
  (sAst 1 (eGet 12 36 (eR 0)) (eBin kAdd (eBin kMul (eK (300)) (eI 1)) (eI 2)) (eK (0)))
  (sInc 2 (1))
noncomputable def l_Md_neighbours_2 : kSx := sFor 2 (cC 2 (eI 1) (eGet 12 1 (eR 0)))
  (sSeq (sTrunc 2 (sSeq (sLet 0 2 (eK (0))) l_Md_neighbours_1))
  (sAst 0 (eGet 12 37 (eR 0)) (eI 1) (eK (0))))
  (sInc 1 (1))
noncomputable def l_Md_neighbours_3 : kSx := sFor 2 (cC 2 (eI 1) (eGet 12 10 (eR 0)))
  (sTrunc 2 (sSeq (sLet 0 2 (eAld 0 (eGet 12 4 (eR 0)) (eAld 0 (eGet 12 11 (eR 0)) (eI 1))))
  (sSeq (sLet 0 3 (eAld 0 (eGet 12 5 (eR 0)) (eAld 0 (eGet 12 11 (eR 0)) (eI 1))))
  (sIf (cAnd (cC 1 (eI 2) (eI 3)) (cNot (cZ 1 (eAld 1 (eGet 12 36 (eR 0)) (eBin kAdd (eBin kMul (eK (300)) (eI 2)) (eI 3)))))) (sSeq (sAst 1 (eGet 12 36 (eR 0)) (eBin kAdd (eBin kMul (eK (300)) (eI 2)) (eI 3)) (eK (1)))
  (sSeq (sAst 1 (eGet 12 36 (eR 0)) (eBin kAdd (eBin kMul (eK (300)) (eI 3)) (eI 2)) (eK (1)))
  (sSeq (sAstOp (eGet 12 37 (eR 0)) (eI 2) kAdd (eK (1)))
  (sAstOp (eGet 12 37 (eR 0)) (eI 3) kAdd (eK (1)))))) sSkip))))
  (sInc 1 (1))
noncomputable def s_Md_neighbours : kSx :=
  (sSeq (sSeq (sTrunc 1 (sSeq (sLet 0 1 (eK (0))) l_Md_neighbours_2))
  (sTrunc 1 (sSeq (sLet 0 1 (eK (0))) l_Md_neighbours_3))) sRetV)
abbrev M_Md_neighbours : kM := (cX12_neighbours, yX12_neighbours.cls, 4, { frames := 0, cells := 0, slots := 0, locals := 0 }, none)
set_option maxRecDepth 20000 in
theorem b_Md_neighbours : kSt M_Md_neighbours 0 0 0 0 s_Md_neighbours :=
  (kSt_seq (kSt_seq (p1 := 52) (kSt_trunc (kSt_seq (kSt_let (kE_ic_0 dX12_neighbours_0) (kSet_istore_1 dX12_neighbours_1 (by decide))) (kSt_for (pu := 46) (pt := 10) (kCd_C (kE_iload_1 dX12_neighbours_2) (kE_get (kE_aload_0 dX12_neighbours_3) lf_RX12_140 dX12_neighbours_4) (kJf_2 (tgt := 52) dX12_neighbours_7 (by decide))) (kSt_seq (p1 := 39) (kSt_trunc (kSt_seq (kSt_let (kE_ic_0 dX12_neighbours_10) (kSet_istore_2 dX12_neighbours_11 (by decide))) (kSt_for (pu := 33) (pt := 20) (kCd_C (kE_iload_2 dX12_neighbours_12) (kE_get (kE_aload_0 dX12_neighbours_13) lf_RX12_140 dX12_neighbours_14) (kJf_2 (tgt := 39) dX12_neighbours_17 (by decide))) (kSt_zast (kE_get (kE_aload_0 dX12_neighbours_20) lf_RX12_93 dX12_neighbours_21) (kE_bin (kE_bin (kE_sipush dX12_neighbours_24 (by rfl) ⟨by decide, by decide⟩) (kE_iload_1 dX12_neighbours_27) (kOp_mul dX12_neighbours_28)) (kE_iload_2 dX12_neighbours_29) (kOp_add dX12_neighbours_30)) (kE_ic_0 dX12_neighbours_31) dX12_neighbours_32) (kSt_goto (tgt := 12) (kSt_inc dX12_neighbours_33 (by decide)) dX12_neighbours_36 (by decide)))))
  (kSt_iast (kE_get (kE_aload_0 dX12_neighbours_39) lf_RX12_96 dX12_neighbours_40) (kE_iload_1 dX12_neighbours_43) (kE_ic_0 dX12_neighbours_44) dX12_neighbours_45)) (kSt_goto (tgt := 2) (kSt_inc dX12_neighbours_46 (by decide)) dX12_neighbours_49 (by decide)))))
  (kSt_trunc (kSt_seq (kSt_let (kE_ic_0 dX12_neighbours_52) (kSet_istore_1 dX12_neighbours_53 (by decide))) (kSt_for (pu := 152) (pt := 62) (kCd_C (kE_iload_1 dX12_neighbours_54) (kE_get (kE_aload_0 dX12_neighbours_55) lf_RX12_146 dX12_neighbours_56) (kJf_2 (tgt := 158) dX12_neighbours_59 (by decide))) (kSt_trunc (kSt_seq (p1 := 74) (kSt_let (kE_iald (kE_get (kE_aload_0 dX12_neighbours_62) lf_RX12_13 dX12_neighbours_63) (kE_iald (kE_get (kE_aload_0 dX12_neighbours_66) lf_RX12_32 dX12_neighbours_67) (kE_iload_1 dX12_neighbours_70) dX12_neighbours_71) dX12_neighbours_72) (kSet_istore_2 dX12_neighbours_73 (by decide)))
  (kSt_seq (p1 := 86) (kSt_let (kE_iald (kE_get (kE_aload_0 dX12_neighbours_74) lf_RX12_16 dX12_neighbours_75) (kE_iald (kE_get (kE_aload_0 dX12_neighbours_78) lf_RX12_32 dX12_neighbours_79) (kE_iload_1 dX12_neighbours_82) dX12_neighbours_83) dX12_neighbours_84) (kSet_istore_3 dX12_neighbours_85 (by decide)))
  (kSt_if (kCd_and (kCd_C (kE_iload_2 dX12_neighbours_86) (kE_iload_3 dX12_neighbours_87) (kJf_1 (tgt := 152) dX12_neighbours_88 (by decide))) (kCd_not (kCd_Z (kE_zald (kE_get (kE_aload_0 dX12_neighbours_91) lf_RX12_93 dX12_neighbours_92) (kE_bin (kE_bin (kE_sipush dX12_neighbours_95 (by rfl) ⟨by decide, by decide⟩) (kE_iload_2 dX12_neighbours_98) (kOp_mul dX12_neighbours_99)) (kE_iload_3 dX12_neighbours_100) (kOp_add dX12_neighbours_101)) dX12_neighbours_102) (kZt_1 (tgt := 152) dX12_neighbours_103 (by decide))))) (kSt_seq (p1 := 119) (kSt_zast (kE_get (kE_aload_0 dX12_neighbours_106) lf_RX12_93 dX12_neighbours_107) (kE_bin (kE_bin (kE_sipush dX12_neighbours_110 (by rfl) ⟨by decide, by decide⟩) (kE_iload_2 dX12_neighbours_113) (kOp_mul dX12_neighbours_114)) (kE_iload_3 dX12_neighbours_115) (kOp_add dX12_neighbours_116)) (kE_ic_1 dX12_neighbours_117) dX12_neighbours_118)
  (kSt_seq (p1 := 132) (kSt_zast (kE_get (kE_aload_0 dX12_neighbours_119) lf_RX12_93 dX12_neighbours_120) (kE_bin (kE_bin (kE_sipush dX12_neighbours_123 (by rfl) ⟨by decide, by decide⟩) (kE_iload_3 dX12_neighbours_126) (kOp_mul dX12_neighbours_127)) (kE_iload_2 dX12_neighbours_128) (kOp_add dX12_neighbours_129)) (kE_ic_1 dX12_neighbours_130) dX12_neighbours_131)
  (kSt_seq (p1 := 142) (kSt_iastOp (kE_get (kE_aload_0 dX12_neighbours_132) lf_RX12_96 dX12_neighbours_133) (kE_iload_2 dX12_neighbours_136) dX12_neighbours_137 dX12_neighbours_138 (kE_ic_1 dX12_neighbours_139) (kOp_add dX12_neighbours_140) dX12_neighbours_141)
  (kSt_iastOp (kE_get (kE_aload_0 dX12_neighbours_142) lf_RX12_96 dX12_neighbours_143) (kE_iload_3 dX12_neighbours_146) dX12_neighbours_147 dX12_neighbours_148 (kE_ic_1 dX12_neighbours_149) (kOp_add dX12_neighbours_150) dX12_neighbours_151)))) kSt_skip)))) (kSt_goto (tgt := 54) (kSt_inc dX12_neighbours_152 (by decide)) dX12_neighbours_155 (by decide)))))) (kSt_retV dX12_neighbours_158))
noncomputable def F_Md_neighbours : kFn := kF 1 kN s_Md_neighbours
theorem c_Md_neighbours : kCon yX12_neighbours cX12_neighbours 4 none { frames := 0, cells := 0, slots := 0, locals := 0 } F_Md_neighbours := kCon_of kEnds_V (by decide +kernel) (by decide) ⟨0, 0, 0, b_Md_neighbours⟩
noncomputable def l_Md_theSet_1 : kSx := sFor 2 (cC 2 (eI 1) (eGet 12 1 (eR 0)))
  (sSeq (sAst 1 (eGet 12 38 (eR 0)) (eI 1) (eK (0)))
  (sAst 1 (eGet 12 40 (eR 0)) (eI 1) (eK (0))))
  (sInc 1 (1))
noncomputable def l_Md_theSet_2 : kSx := sFor 4 (cC 2 (eI 3) (eGet 12 1 (eR 0)))
  (sLet 0 2 (eIf (cAnd (cNot (cZ 1 (eAld 1 (eGet 12 40 (eR 0)) (eI 3)))) (cOr (cC 0 (eI 2) (eK (-1))) (cC 4 (eAld 0 (eGet 12 2 (eR 0)) (eI 3)) (eAld 0 (eGet 12 2 (eR 0)) (eI 2))))) (eI 3) (eI 2)))
  (sInc 3 (1))
noncomputable def l_Md_theSet_3 : kSx := sFor 4 (cC 2 (eI 3) (eGet 12 1 (eR 0)))
  (sIf (cAnd (cZ 1 (eAld 1 (eGet 12 38 (eR 0)) (eI 3))) (cZ 1 (eAld 1 (eGet 12 36 (eR 0)) (eBin kAdd (eBin kMul (eK (300)) (eI 2)) (eI 3))))) (sAst 1 (eGet 12 38 (eR 0)) (eI 2) (eK (0))) sSkip)
  (sInc 3 (1))
noncomputable def l_Md_theSet_4 : kSx := sFor 2 (cC 2 (eI 1) (eGet 12 1 (eR 0)))
  (sTrunc 2 (sSeq (sLet 0 2 (eK (-1)))
  (sSeq (sTrunc 3 (sSeq (sLet 0 3 (eK (0))) l_Md_theSet_2))
  (sSeq (sAst 1 (eGet 12 40 (eR 0)) (eI 2) (eK (1)))
  (sSeq (sAst 1 (eGet 12 38 (eR 0)) (eI 2) (eK (1)))
  (sTrunc 3 (sSeq (sLet 0 3 (eK (0))) l_Md_theSet_3)))))))
  (sInc 1 (1))
noncomputable def s_Md_theSet : kSx :=
  (sSeq (sSeq (sCall 12 F_Md_neighbours (eSnoc eNil (eR 0)))
  (sSeq (sTrunc 1 (sSeq (sLet 0 1 (eK (0))) l_Md_theSet_1))
  (sTrunc 1 (sSeq (sLet 0 1 (eK (0))) l_Md_theSet_4)))) sRetV)
abbrev M_Md_theSet : kM := (cX12_theSet, yX12_theSet.cls, 4, { frames := 1, cells := 0, slots := 0, locals := 23 }, none)
set_option maxRecDepth 20000 in
theorem b_Md_theSet : kSt M_Md_theSet 0 0 0 0 s_Md_theSet :=
  (kSt_seq (kSt_seq (p1 := 4) (kSt_call (kEs_snoc kEs_nil (kE_aload_0 dX12_theSet_0)) dX12_theSet_1 c_Md_neighbours mv_Md_neighbours lm_RX12_209 ⟨rfl, rfl, by decide, by decide⟩)
  (kSt_seq (p1 := 34) (kSt_trunc (kSt_seq (kSt_let (kE_ic_0 dX12_theSet_4) (kSet_istore_1 dX12_theSet_5 (by decide))) (kSt_for (pu := 28) (pt := 14) (kCd_C (kE_iload_1 dX12_theSet_6) (kE_get (kE_aload_0 dX12_theSet_7) lf_RX12_140 dX12_theSet_8) (kJf_2 (tgt := 34) dX12_theSet_11 (by decide))) (kSt_seq (p1 := 21) (kSt_zast (kE_get (kE_aload_0 dX12_theSet_14) lf_RX12_99 dX12_theSet_15) (kE_iload_1 dX12_theSet_18) (kE_ic_0 dX12_theSet_19) dX12_theSet_20)
  (kSt_zast (kE_get (kE_aload_0 dX12_theSet_21) lf_RX12_105 dX12_theSet_22) (kE_iload_1 dX12_theSet_25) (kE_ic_0 dX12_theSet_26) dX12_theSet_27)) (kSt_goto (tgt := 6) (kSt_inc dX12_theSet_28 (by decide)) dX12_theSet_31 (by decide)))))
  (kSt_trunc (kSt_seq (kSt_let (kE_ic_0 dX12_theSet_34) (kSet_istore_1 dX12_theSet_35 (by decide))) (kSt_for (pu := 158) (pt := 44) (kCd_C (kE_iload_1 dX12_theSet_36) (kE_get (kE_aload_0 dX12_theSet_37) lf_RX12_140 dX12_theSet_38) (kJf_2 (tgt := 164) dX12_theSet_41 (by decide))) (kSt_trunc (kSt_seq (p1 := 46) (kSt_let (kE_ic_m1 dX12_theSet_44) (kSet_istore_2 dX12_theSet_45 (by decide)))
  (kSt_seq (p1 := 97) (kSt_trunc (kSt_seq (kSt_let (kE_ic_0 dX12_theSet_46) (kSet_istore_3 dX12_theSet_47 (by decide))) (kSt_for (pu := 91) (pt := 56) (kCd_C (kE_iload_3 dX12_theSet_48) (kE_get (kE_aload_0 dX12_theSet_49) lf_RX12_140 dX12_theSet_50) (kJf_2 (tgt := 97) dX12_theSet_53 (by decide))) (kSt_let (kE_if (kCd_and (kCd_not (kCd_Z (kE_zald (kE_get (kE_aload_0 dX12_theSet_56) lf_RX12_105 dX12_theSet_57) (kE_iload_3 dX12_theSet_60) dX12_theSet_61) (kZt_1 (tgt := 89) dX12_theSet_62 (by decide)))) (kCd_or (kCd_C (kE_iload_2 dX12_theSet_65) (kE_ic_m1 dX12_theSet_66) (kJt_0 (tgt := 85) dX12_theSet_67 (by decide))) (kCd_C (kE_iald (kE_get (kE_aload_0 dX12_theSet_70) lf_RX12_7 dX12_theSet_71) (kE_iload_3 dX12_theSet_74) dX12_theSet_75) (kE_iald (kE_get (kE_aload_0 dX12_theSet_76) lf_RX12_7 dX12_theSet_77) (kE_iload_2 dX12_theSet_80) dX12_theSet_81) (kJf_4 (tgt := 89) dX12_theSet_82 (by decide))))) (kE_goto (tgt := 90) (kE_iload_3 dX12_theSet_85) dX12_theSet_86 (by decide)) (kE_iload_2 dX12_theSet_89)) (kSet_istore_2 dX12_theSet_90 (by decide))) (kSt_goto (tgt := 48) (kSt_inc dX12_theSet_91 (by decide)) dX12_theSet_94 (by decide)))))
  (kSt_seq (p1 := 104) (kSt_zast (kE_get (kE_aload_0 dX12_theSet_97) lf_RX12_105 dX12_theSet_98) (kE_iload_2 dX12_theSet_101) (kE_ic_1 dX12_theSet_102) dX12_theSet_103)
  (kSt_seq (p1 := 111) (kSt_zast (kE_get (kE_aload_0 dX12_theSet_104) lf_RX12_99 dX12_theSet_105) (kE_iload_2 dX12_theSet_108) (kE_ic_1 dX12_theSet_109) dX12_theSet_110)
  (kSt_trunc (kSt_seq (kSt_let (kE_ic_0 dX12_theSet_111) (kSet_istore_3 dX12_theSet_112 (by decide))) (kSt_for (pu := 152) (pt := 121) (kCd_C (kE_iload_3 dX12_theSet_113) (kE_get (kE_aload_0 dX12_theSet_114) lf_RX12_140 dX12_theSet_115) (kJf_2 (tgt := 158) dX12_theSet_118 (by decide))) (kSt_if (kCd_and (kCd_Z (kE_zald (kE_get (kE_aload_0 dX12_theSet_121) lf_RX12_99 dX12_theSet_122) (kE_iload_3 dX12_theSet_125) dX12_theSet_126) (kZf_1 (tgt := 152) dX12_theSet_127 (by decide))) (kCd_Z (kE_zald (kE_get (kE_aload_0 dX12_theSet_130) lf_RX12_93 dX12_theSet_131) (kE_bin (kE_bin (kE_sipush dX12_theSet_134 (by rfl) ⟨by decide, by decide⟩) (kE_iload_2 dX12_theSet_137) (kOp_mul dX12_theSet_138)) (kE_iload_3 dX12_theSet_139) (kOp_add dX12_theSet_140)) dX12_theSet_141) (kZf_1 (tgt := 152) dX12_theSet_142 (by decide)))) (kSt_zast (kE_get (kE_aload_0 dX12_theSet_145) lf_RX12_99 dX12_theSet_146) (kE_iload_2 dX12_theSet_149) (kE_ic_0 dX12_theSet_150) dX12_theSet_151) kSt_skip) (kSt_goto (tgt := 113) (kSt_inc dX12_theSet_152 (by decide)) dX12_theSet_155 (by decide)))))))))) (kSt_goto (tgt := 36) (kSt_inc dX12_theSet_158 (by decide)) dX12_theSet_161 (by decide))))))) (kSt_retV dX12_theSet_164))
noncomputable def F_Md_theSet : kFn := kF 1 kN s_Md_theSet
theorem c_Md_theSet : kCon yX12_theSet cX12_theSet 4 none { frames := 1, cells := 0, slots := 0, locals := 23 } F_Md_theSet := kCon_of kEnds_V (by decide +kernel) (by decide) ⟨0, 0, 0, b_Md_theSet⟩
noncomputable def l_Md_keepSet_1 : kSx := sFor 2 (cC 2 (eI 1) (eGet 12 1 (eR 0)))
  (sAst 1 (eGet 12 39 (eR 0)) (eI 1) (eAld 1 (eGet 12 38 (eR 0)) (eI 1)))
  (sInc 1 (1))
noncomputable def s_Md_keepSet : kSx :=
  (sSeq (sSeq (sCall 12 F_Md_theSet (eSnoc eNil (eR 0)))
  (sTrunc 1 (sSeq (sLet 0 1 (eK (0))) l_Md_keepSet_1))) sRetV)
abbrev M_Md_keepSet : kM := (cX12_keepSet, yX12_keepSet.cls, 2, { frames := 2, cells := 0, slots := 0, locals := 46 }, none)
set_option maxRecDepth 20000 in
theorem b_Md_keepSet : kSt M_Md_keepSet 0 0 0 0 s_Md_keepSet :=
  (kSt_seq (kSt_seq (p1 := 4) (kSt_call (kEs_snoc kEs_nil (kE_aload_0 dX12_keepSet_0)) dX12_keepSet_1 c_Md_theSet mv_Md_theSet lm_RX12_212 ⟨rfl, rfl, by decide, by decide⟩)
  (kSt_trunc (kSt_seq (kSt_let (kE_ic_0 dX12_keepSet_4) (kSet_istore_1 dX12_keepSet_5 (by decide))) (kSt_for (pu := 26) (pt := 14) (kCd_C (kE_iload_1 dX12_keepSet_6) (kE_get (kE_aload_0 dX12_keepSet_7) lf_RX12_140 dX12_keepSet_8) (kJf_2 (tgt := 32) dX12_keepSet_11 (by decide))) (kSt_zast (kE_get (kE_aload_0 dX12_keepSet_14) lf_RX12_102 dX12_keepSet_15) (kE_iload_1 dX12_keepSet_18) (kE_zald (kE_get (kE_aload_0 dX12_keepSet_19) lf_RX12_99 dX12_keepSet_20) (kE_iload_1 dX12_keepSet_23) dX12_keepSet_24) dX12_keepSet_25) (kSt_goto (tgt := 6) (kSt_inc dX12_keepSet_26 (by decide)) dX12_keepSet_29 (by decide)))))) (kSt_retV dX12_keepSet_32))
noncomputable def F_Md_keepSet : kFn := kF 1 kN s_Md_keepSet
theorem c_Md_keepSet : kCon yX12_keepSet cX12_keepSet 2 none { frames := 2, cells := 0, slots := 0, locals := 46 } F_Md_keepSet := kCon_of kEnds_V (by decide +kernel) (by decide) ⟨0, 0, 0, b_Md_keepSet⟩
noncomputable def l_Md_becomeOrdered_1 : kSx := sFor 5 (cC 2 (eI 4) (eGet 12 1 (eR 0)))
  (sAst 1 (eGet 12 30 (eR 0)) (eI 4) (eIf (cAnd (cZ 1 (eAld 1 (eGet 12 23 (eR 0)) (eI 4))) (cC 5 (eAld 0 (eGet 12 13 (eR 0)) (eI 4)) (eAld 0 (eGet 12 13 (eR 0)) (eI 2)))) (eK (1)) (eK (0))))
  (sInc 4 (1))
noncomputable def l_Md_becomeOrdered_2 : kSx := sFor 5 (cC 2 (eI 4) (eGet 12 1 (eR 0)))
  (sAst 1 (eGet 12 31 (eR 0)) (eI 4) (eIf (cAnd (cZ 1 (eAld 1 (eGet 12 23 (eR 0)) (eI 4))) (cC 3 (eAld 0 (eGet 12 13 (eR 0)) (eI 4)) (eAld 0 (eGet 12 13 (eR 0)) (eI 3)))) (eK (1)) (eK (0))))
  (sInc 4 (1))
noncomputable def l_Md_becomeOrdered_3 : kSx := sFor 6 (cC 2 (eI 5) (eGet 12 1 (eR 0)))
  (sIf (cZ 1 (eAld 1 (eGet 12 31 (eR 0)) (eAld 0 (eGet 12 12 (eR 0)) (eI 5)))) (sSeq (sAst 0 (eGet 12 32 (eR 0)) (eI 4) (eAld 0 (eGet 12 12 (eR 0)) (eI 5)))
  (sInc 4 (1))) sSkip)
  (sInc 5 (1))
noncomputable def l_Md_becomeOrdered_4 : kSx := sFor 6 (cC 2 (eI 5) (eGet 12 1 (eR 0)))
  (sIf (cZ 1 (eAld 1 (eGet 12 30 (eR 0)) (eAld 0 (eGet 12 12 (eR 0)) (eI 5)))) (sSeq (sAst 0 (eGet 12 32 (eR 0)) (eI 4) (eAld 0 (eGet 12 12 (eR 0)) (eI 5)))
  (sInc 4 (1))) sSkip)
  (sInc 5 (1))
noncomputable def l_Md_becomeOrdered_5 : kSx := sFor 7 (cC 2 (eI 6) (eGet 12 1 (eR 0)))
  (sIf (cOr (cZ 1 (eAld 1 (eGet 12 30 (eR 0)) (eAld 0 (eGet 12 12 (eR 0)) (eI 6)))) (cZ 1 (eAld 1 (eGet 12 31 (eR 0)) (eAld 0 (eGet 12 12 (eR 0)) (eI 6))))) (sSeq (sAst 0 (eGet 12 25 (eR 0)) (eI 6) (eAld 0 (eGet 12 32 (eR 0)) (eI 5)))
  (sInc 5 (1)))
  (sAst 0 (eGet 12 25 (eR 0)) (eI 6) (eAld 0 (eGet 12 12 (eR 0)) (eI 6))))
  (sInc 6 (1))
noncomputable def l_Md_becomeOrdered_6 : kSx := sFor 7 (cC 2 (eI 6) (eGet 12 1 (eR 0)))
  (sSeq (sAst 0 (eGet 12 12 (eR 0)) (eI 6) (eAld 0 (eGet 12 25 (eR 0)) (eI 6)))
  (sAst 0 (eGet 12 13 (eR 0)) (eAld 0 (eGet 12 12 (eR 0)) (eI 6)) (eI 6)))
  (sInc 6 (1))
noncomputable def s_Md_becomeOrdered : kSx :=
  (sSeq (sSeq (sLet 0 2 (eAld 0 (eGet 12 4 (eR 0)) (eI 1)))
  (sSeq (sLet 0 3 (eAld 0 (eGet 12 5 (eR 0)) (eI 1)))
  (sSeq (sIf (cC 4 (eAld 0 (eGet 12 13 (eR 0)) (eI 2)) (eAld 0 (eGet 12 13 (eR 0)) (eI 3))) (sTrunc 4 (sSeq (sCall 12 F_Md_walk (eSnoc (eSnoc (eSnoc (eSnoc (eSnoc eNil (eR 0)) (eI 3)) (eK (4))) (eK (0))) (eK (-1))))
  (sSeq (sTrunc 4 (sSeq (sLet 0 4 (eK (0))) l_Md_becomeOrdered_1))
  (sSeq (sCall 12 F_Md_walk (eSnoc (eSnoc (eSnoc (eSnoc (eSnoc eNil (eR 0)) (eI 2)) (eK (5))) (eK (0))) (eK (-1))))
  (sSeq (sTrunc 4 (sSeq (sLet 0 4 (eK (0))) l_Md_becomeOrdered_2))
  (sSeq (sLet 0 4 (eK (0)))
  (sSeq (sTrunc 5 (sSeq (sLet 0 5 (eK (0))) l_Md_becomeOrdered_3))
  (sSeq (sTrunc 5 (sSeq (sLet 0 5 (eK (0))) l_Md_becomeOrdered_4))
  (sSeq (sLet 0 5 (eK (0)))
  (sSeq (sTrunc 6 (sSeq (sLet 0 6 (eK (0))) l_Md_becomeOrdered_5))
  (sTrunc 6 (sSeq (sLet 0 6 (eK (0))) l_Md_becomeOrdered_6)))))))))))) sSkip)
  (sAst 1 (eGet 12 8 (eR 0)) (eI 1) (eK (0)))))) sRetV)
abbrev M_Md_becomeOrdered : kM := (cX12_becomeOrdered, yX12_becomeOrdered.cls, 7, { frames := 1, cells := 0, slots := 0, locals := 28 }, none)
set_option maxRecDepth 20000 in
theorem b_Md_becomeOrdered : kSt M_Md_becomeOrdered 0 0 0 0 s_Md_becomeOrdered :=
  (kSt_seq (kSt_seq (p1 := 7) (kSt_let (kE_iald (kE_get (kE_aload_0 dX12_becomeOrdered_0) lf_RX12_13 dX12_becomeOrdered_1) (kE_iload_1 dX12_becomeOrdered_4) dX12_becomeOrdered_5) (kSet_istore_2 dX12_becomeOrdered_6 (by decide)))
  (kSt_seq (p1 := 14) (kSt_let (kE_iald (kE_get (kE_aload_0 dX12_becomeOrdered_7) lf_RX12_16 dX12_becomeOrdered_8) (kE_iload_1 dX12_becomeOrdered_11) dX12_becomeOrdered_12) (kSet_istore_3 dX12_becomeOrdered_13 (by decide)))
  (kSt_seq (p1 := 391) (kSt_if (kCd_C (kE_iald (kE_get (kE_aload_0 dX12_becomeOrdered_14) lf_RX12_38 dX12_becomeOrdered_15) (kE_iload_2 dX12_becomeOrdered_18) dX12_becomeOrdered_19) (kE_iald (kE_get (kE_aload_0 dX12_becomeOrdered_20) lf_RX12_38 dX12_becomeOrdered_21) (kE_iload_3 dX12_becomeOrdered_24) dX12_becomeOrdered_25) (kJf_4 (tgt := 391) dX12_becomeOrdered_26 (by decide))) (kSt_trunc (kSt_seq (p1 := 37) (kSt_call (kEs_snoc (kEs_snoc (kEs_snoc (kEs_snoc (kEs_snoc kEs_nil (kE_aload_0 dX12_becomeOrdered_29)) (kE_iload_3 dX12_becomeOrdered_30)) (kE_ic_4 dX12_becomeOrdered_31)) (kE_ic_0 dX12_becomeOrdered_32)) (kE_ic_m1 dX12_becomeOrdered_33)) dX12_becomeOrdered_34 c_Md_walk mv_Md_walk lm_RX12_152 ⟨rfl, rfl, by decide, by decide⟩)
  (kSt_seq (p1 := 93) (kSt_trunc (kSt_seq (kSt_let (kE_ic_0 dX12_becomeOrdered_37) (kSet_istore dX12_becomeOrdered_38 (by decide))) (kSt_for (pu := 87) (pt := 49) (kCd_C (kE_iload dX12_becomeOrdered_40) (kE_get (kE_aload_0 dX12_becomeOrdered_42) lf_RX12_140 dX12_becomeOrdered_43) (kJf_2 (tgt := 93) dX12_becomeOrdered_46 (by decide))) (kSt_zast (kE_get (kE_aload_0 dX12_becomeOrdered_49) lf_RX12_74 dX12_becomeOrdered_50) (kE_iload dX12_becomeOrdered_53) (kE_if (kCd_and (kCd_Z (kE_zald (kE_get (kE_aload_0 dX12_becomeOrdered_55) lf_RX12_56 dX12_becomeOrdered_56) (kE_iload dX12_becomeOrdered_59) dX12_becomeOrdered_61) (kZf_1 (tgt := 85) dX12_becomeOrdered_62 (by decide))) (kCd_C (kE_iald (kE_get (kE_aload_0 dX12_becomeOrdered_65) lf_RX12_38 dX12_becomeOrdered_66) (kE_iload dX12_becomeOrdered_69) dX12_becomeOrdered_71) (kE_iald (kE_get (kE_aload_0 dX12_becomeOrdered_72) lf_RX12_38 dX12_becomeOrdered_73) (kE_iload_2 dX12_becomeOrdered_76) dX12_becomeOrdered_77) (kJf_5 (tgt := 85) dX12_becomeOrdered_78 (by decide)))) (kE_goto (tgt := 86) (kE_ic_1 dX12_becomeOrdered_81) dX12_becomeOrdered_82 (by decide)) (kE_ic_0 dX12_becomeOrdered_85)) dX12_becomeOrdered_86) (kSt_goto (tgt := 40) (kSt_inc dX12_becomeOrdered_87 (by decide)) dX12_becomeOrdered_90 (by decide)))))
  (kSt_seq (p1 := 101) (kSt_call (kEs_snoc (kEs_snoc (kEs_snoc (kEs_snoc (kEs_snoc kEs_nil (kE_aload_0 dX12_becomeOrdered_93)) (kE_iload_2 dX12_becomeOrdered_94)) (kE_ic_5 dX12_becomeOrdered_95)) (kE_ic_0 dX12_becomeOrdered_96)) (kE_ic_m1 dX12_becomeOrdered_97)) dX12_becomeOrdered_98 c_Md_walk mv_Md_walk lm_RX12_152 ⟨rfl, rfl, by decide, by decide⟩)
  (kSt_seq (p1 := 157) (kSt_trunc (kSt_seq (kSt_let (kE_ic_0 dX12_becomeOrdered_101) (kSet_istore dX12_becomeOrdered_102 (by decide))) (kSt_for (pu := 151) (pt := 113) (kCd_C (kE_iload dX12_becomeOrdered_104) (kE_get (kE_aload_0 dX12_becomeOrdered_106) lf_RX12_140 dX12_becomeOrdered_107) (kJf_2 (tgt := 157) dX12_becomeOrdered_110 (by decide))) (kSt_zast (kE_get (kE_aload_0 dX12_becomeOrdered_113) lf_RX12_77 dX12_becomeOrdered_114) (kE_iload dX12_becomeOrdered_117) (kE_if (kCd_and (kCd_Z (kE_zald (kE_get (kE_aload_0 dX12_becomeOrdered_119) lf_RX12_56 dX12_becomeOrdered_120) (kE_iload dX12_becomeOrdered_123) dX12_becomeOrdered_125) (kZf_1 (tgt := 149) dX12_becomeOrdered_126 (by decide))) (kCd_C (kE_iald (kE_get (kE_aload_0 dX12_becomeOrdered_129) lf_RX12_38 dX12_becomeOrdered_130) (kE_iload dX12_becomeOrdered_133) dX12_becomeOrdered_135) (kE_iald (kE_get (kE_aload_0 dX12_becomeOrdered_136) lf_RX12_38 dX12_becomeOrdered_137) (kE_iload_3 dX12_becomeOrdered_140) dX12_becomeOrdered_141) (kJf_3 (tgt := 149) dX12_becomeOrdered_142 (by decide)))) (kE_goto (tgt := 150) (kE_ic_1 dX12_becomeOrdered_145) dX12_becomeOrdered_146 (by decide)) (kE_ic_0 dX12_becomeOrdered_149)) dX12_becomeOrdered_150) (kSt_goto (tgt := 104) (kSt_inc dX12_becomeOrdered_151 (by decide)) dX12_becomeOrdered_154 (by decide)))))
  (kSt_seq (p1 := 160) (kSt_let (kE_ic_0 dX12_becomeOrdered_157) (kSet_istore dX12_becomeOrdered_158 (by decide)))
  (kSt_seq (p1 := 210) (kSt_trunc (kSt_seq (kSt_let (kE_ic_0 dX12_becomeOrdered_160) (kSet_istore dX12_becomeOrdered_161 (by decide))) (kSt_for (pu := 204) (pt := 172) (kCd_C (kE_iload dX12_becomeOrdered_163) (kE_get (kE_aload_0 dX12_becomeOrdered_165) lf_RX12_140 dX12_becomeOrdered_166) (kJf_2 (tgt := 210) dX12_becomeOrdered_169 (by decide))) (kSt_if (kCd_Z (kE_zald (kE_get (kE_aload_0 dX12_becomeOrdered_172) lf_RX12_77 dX12_becomeOrdered_173) (kE_iald (kE_get (kE_aload_0 dX12_becomeOrdered_176) lf_RX12_35 dX12_becomeOrdered_177) (kE_iload dX12_becomeOrdered_180) dX12_becomeOrdered_182) dX12_becomeOrdered_183) (kZf_1 (tgt := 204) dX12_becomeOrdered_184 (by decide))) (kSt_seq (p1 := 201) (kSt_iast (kE_get (kE_aload_0 dX12_becomeOrdered_187) lf_RX12_80 dX12_becomeOrdered_188) (kE_iload dX12_becomeOrdered_191) (kE_iald (kE_get (kE_aload_0 dX12_becomeOrdered_193) lf_RX12_35 dX12_becomeOrdered_194) (kE_iload dX12_becomeOrdered_197) dX12_becomeOrdered_199) dX12_becomeOrdered_200)
  (kSt_inc dX12_becomeOrdered_201 (by decide))) kSt_skip) (kSt_goto (tgt := 163) (kSt_inc dX12_becomeOrdered_204 (by decide)) dX12_becomeOrdered_207 (by decide)))))
  (kSt_seq (p1 := 260) (kSt_trunc (kSt_seq (kSt_let (kE_ic_0 dX12_becomeOrdered_210) (kSet_istore dX12_becomeOrdered_211 (by decide))) (kSt_for (pu := 254) (pt := 222) (kCd_C (kE_iload dX12_becomeOrdered_213) (kE_get (kE_aload_0 dX12_becomeOrdered_215) lf_RX12_140 dX12_becomeOrdered_216) (kJf_2 (tgt := 260) dX12_becomeOrdered_219 (by decide))) (kSt_if (kCd_Z (kE_zald (kE_get (kE_aload_0 dX12_becomeOrdered_222) lf_RX12_74 dX12_becomeOrdered_223) (kE_iald (kE_get (kE_aload_0 dX12_becomeOrdered_226) lf_RX12_35 dX12_becomeOrdered_227) (kE_iload dX12_becomeOrdered_230) dX12_becomeOrdered_232) dX12_becomeOrdered_233) (kZf_1 (tgt := 254) dX12_becomeOrdered_234 (by decide))) (kSt_seq (p1 := 251) (kSt_iast (kE_get (kE_aload_0 dX12_becomeOrdered_237) lf_RX12_80 dX12_becomeOrdered_238) (kE_iload dX12_becomeOrdered_241) (kE_iald (kE_get (kE_aload_0 dX12_becomeOrdered_243) lf_RX12_35 dX12_becomeOrdered_244) (kE_iload dX12_becomeOrdered_247) dX12_becomeOrdered_249) dX12_becomeOrdered_250)
  (kSt_inc dX12_becomeOrdered_251 (by decide))) kSt_skip) (kSt_goto (tgt := 213) (kSt_inc dX12_becomeOrdered_254 (by decide)) dX12_becomeOrdered_257 (by decide)))))
  (kSt_seq (p1 := 263) (kSt_let (kE_ic_0 dX12_becomeOrdered_260) (kSet_istore dX12_becomeOrdered_261 (by decide)))
  (kSt_seq (p1 := 345) (kSt_trunc (kSt_seq (kSt_let (kE_ic_0 dX12_becomeOrdered_263) (kSet_istore dX12_becomeOrdered_264 (by decide))) (kSt_for (pu := 339) (pt := 275) (kCd_C (kE_iload dX12_becomeOrdered_266) (kE_get (kE_aload_0 dX12_becomeOrdered_268) lf_RX12_140 dX12_becomeOrdered_269) (kJf_2 (tgt := 345) dX12_becomeOrdered_272 (by decide))) (kSt_if (kCd_or (kCd_Z (kE_zald (kE_get (kE_aload_0 dX12_becomeOrdered_275) lf_RX12_74 dX12_becomeOrdered_276) (kE_iald (kE_get (kE_aload_0 dX12_becomeOrdered_279) lf_RX12_35 dX12_becomeOrdered_280) (kE_iload dX12_becomeOrdered_283) dX12_becomeOrdered_285) dX12_becomeOrdered_286) (kZt_1 (tgt := 305) dX12_becomeOrdered_287 (by decide))) (kCd_Z (kE_zald (kE_get (kE_aload_0 dX12_becomeOrdered_290) lf_RX12_77 dX12_becomeOrdered_291) (kE_iald (kE_get (kE_aload_0 dX12_becomeOrdered_294) lf_RX12_35 dX12_becomeOrdered_295) (kE_iload dX12_becomeOrdered_298) dX12_becomeOrdered_300) dX12_becomeOrdered_301) (kZf_1 (tgt := 325) dX12_becomeOrdered_302 (by decide)))) (kSt_goto (tgt := 339) (kSt_seq (p1 := 319) (kSt_iast (kE_get (kE_aload_0 dX12_becomeOrdered_305) lf_RX12_62 dX12_becomeOrdered_306) (kE_iload dX12_becomeOrdered_309) (kE_iald (kE_get (kE_aload_0 dX12_becomeOrdered_311) lf_RX12_80 dX12_becomeOrdered_312) (kE_iload dX12_becomeOrdered_315) dX12_becomeOrdered_317) dX12_becomeOrdered_318)
  (kSt_inc dX12_becomeOrdered_319 (by decide))) dX12_becomeOrdered_322 (by decide))
  (kSt_iast (kE_get (kE_aload_0 dX12_becomeOrdered_325) lf_RX12_62 dX12_becomeOrdered_326) (kE_iload dX12_becomeOrdered_329) (kE_iald (kE_get (kE_aload_0 dX12_becomeOrdered_331) lf_RX12_35 dX12_becomeOrdered_332) (kE_iload dX12_becomeOrdered_335) dX12_becomeOrdered_337) dX12_becomeOrdered_338)) (kSt_goto (tgt := 266) (kSt_inc dX12_becomeOrdered_339 (by decide)) dX12_becomeOrdered_342 (by decide)))))
  (kSt_trunc (kSt_seq (kSt_let (kE_ic_0 dX12_becomeOrdered_345) (kSet_istore dX12_becomeOrdered_346 (by decide))) (kSt_for (pu := 385) (pt := 357) (kCd_C (kE_iload dX12_becomeOrdered_348) (kE_get (kE_aload_0 dX12_becomeOrdered_350) lf_RX12_140 dX12_becomeOrdered_351) (kJf_2 (tgt := 391) dX12_becomeOrdered_354 (by decide))) (kSt_seq (p1 := 371) (kSt_iast (kE_get (kE_aload_0 dX12_becomeOrdered_357) lf_RX12_35 dX12_becomeOrdered_358) (kE_iload dX12_becomeOrdered_361) (kE_iald (kE_get (kE_aload_0 dX12_becomeOrdered_363) lf_RX12_62 dX12_becomeOrdered_364) (kE_iload dX12_becomeOrdered_367) dX12_becomeOrdered_369) dX12_becomeOrdered_370)
  (kSt_iast (kE_get (kE_aload_0 dX12_becomeOrdered_371) lf_RX12_38 dX12_becomeOrdered_372) (kE_iald (kE_get (kE_aload_0 dX12_becomeOrdered_375) lf_RX12_35 dX12_becomeOrdered_376) (kE_iload dX12_becomeOrdered_379) dX12_becomeOrdered_381) (kE_iload dX12_becomeOrdered_382) dX12_becomeOrdered_384)) (kSt_goto (tgt := 348) (kSt_inc dX12_becomeOrdered_385 (by decide)) dX12_becomeOrdered_388 (by decide))))))))))))))) kSt_skip)
  (kSt_zast (kE_get (kE_aload_0 dX12_becomeOrdered_391) lf_RX12_26 dX12_becomeOrdered_392) (kE_iload_1 dX12_becomeOrdered_395) (kE_ic_0 dX12_becomeOrdered_396) dX12_becomeOrdered_397)))) (kSt_retV dX12_becomeOrdered_398))
noncomputable def F_Md_becomeOrdered : kFn := kF 2 kN s_Md_becomeOrdered
theorem c_Md_becomeOrdered : kCon yX12_becomeOrdered cX12_becomeOrdered 7 none { frames := 1, cells := 0, slots := 0, locals := 28 } F_Md_becomeOrdered := kCon_of kEnds_V (by decide +kernel) (by decide) ⟨0, 0, 0, b_Md_becomeOrdered⟩
noncomputable def l_Md_differ_1 : kSx := sFor 3 (cC 2 (eI 2) (eGet 12 1 (eR 0)))
  (sLet 0 1 (eBin kAdd (eI 1) (eIf (cC 1 (eAld 1 (eGet 12 39 (eR 0)) (eI 2)) (eAld 1 (eGet 12 38 (eR 0)) (eI 2))) (eK (1)) (eK (0)))))
  (sInc 2 (1))
noncomputable def s_Md_differ : kSx :=
  (sSeq (sCall 12 F_Md_theSet (eSnoc eNil (eR 0)))
  (sSeq (sLet 0 1 (eK (0)))
  (sSeq (sTrunc 2 (sSeq (sLet 0 2 (eK (0))) l_Md_differ_1))
  (sRet 0 (eI 1)))))
abbrev M_Md_differ : kM := (cX12_differ, yX12_differ.cls, 3, { frames := 2, cells := 0, slots := 0, locals := 46 }, (some .int))
set_option maxRecDepth 20000 in
theorem b_Md_differ : kSt M_Md_differ 0 0 0 0 s_Md_differ :=
  (kSt_seq (p1 := 4) (kSt_call (kEs_snoc kEs_nil (kE_aload_0 dX12_differ_0)) dX12_differ_1 c_Md_theSet mv_Md_theSet lm_RX12_212 ⟨rfl, rfl, by decide, by decide⟩)
  (kSt_seq (p1 := 6) (kSt_let (kE_ic_0 dX12_differ_4) (kSet_istore_1 dX12_differ_5 (by decide)))
  (kSt_seq (p1 := 45) (kSt_trunc (kSt_seq (kSt_let (kE_ic_0 dX12_differ_6) (kSet_istore_2 dX12_differ_7 (by decide))) (kSt_for (pu := 39) (pt := 16) (kCd_C (kE_iload_2 dX12_differ_8) (kE_get (kE_aload_0 dX12_differ_9) lf_RX12_140 dX12_differ_10) (kJf_2 (tgt := 45) dX12_differ_13 (by decide))) (kSt_let (kE_bin (kE_iload_1 dX12_differ_16) (kE_if (kCd_C (kE_zald (kE_get (kE_aload_0 dX12_differ_17) lf_RX12_102 dX12_differ_18) (kE_iload_2 dX12_differ_21) dX12_differ_22) (kE_zald (kE_get (kE_aload_0 dX12_differ_23) lf_RX12_99 dX12_differ_24) (kE_iload_2 dX12_differ_27) dX12_differ_28) (kJf_1 (tgt := 36) dX12_differ_29 (by decide))) (kE_goto (tgt := 37) (kE_ic_1 dX12_differ_32) dX12_differ_33 (by decide)) (kE_ic_0 dX12_differ_36)) (kOp_add dX12_differ_37)) (kSet_istore_1 dX12_differ_38 (by decide))) (kSt_goto (tgt := 8) (kSt_inc dX12_differ_39 (by decide)) dX12_differ_42 (by decide)))))
  (kSt_ret (tag := 0) (kE_iload_1 dX12_differ_45) ⟨fun _ => dX12_differ_46, fun q => (by cases q), fun q => (by cases q)⟩))))
noncomputable def F_Md_differ : kFn := kF 1 kI s_Md_differ
theorem c_Md_differ : kCon yX12_differ cX12_differ 3 (some .int) { frames := 2, cells := 0, slots := 0, locals := 46 } F_Md_differ := kCon_of kEnds_I (by decide +kernel) (by decide) ⟨0, 0, 0, b_Md_differ⟩
noncomputable def s_Md_put : kSx :=
  (sSeq (sPut 12 22 (eR 0) (eK (0)))
  (sSeq (sIf (cOr (cNot (cZ 1 (eCall 12 F_Md_isNode (eSnoc (eSnoc eNil (eR 0)) (eI 1))))) (cNot (cZ 1 (eCall 12 F_Md_isNode (eSnoc (eSnoc eNil (eR 0)) (eI 2)))))) (sRet 0 (eCall 12 F_Md_fail (eSnoc (eSnoc eNil (eR 0)) (eK (1))))) sSkip)
  (sSeq (sIf (cOr (cC 0 (eGet 12 10 (eR 0)) (eK (900))) (cC 0 (eGet 12 3 (eR 0)) (eK (5000)))) (sRet 0 (eCall 12 F_Md_fail (eSnoc (eSnoc eNil (eR 0)) (eK (2))))) sSkip)
  (sSeq (sLet 0 3 (eIf (cC 0 (eI 1) (eI 2)) (eK (1)) (eK (0))))
  (sSeq (sIf (cC 1 (eI 1) (eI 2)) (sSeq (sCall 12 F_Md_walk (eSnoc (eSnoc (eSnoc (eSnoc (eSnoc eNil (eR 0)) (eI 2)) (eK (4))) (eK (0))) (eK (-1))))
  (sLet 0 3 (eAld 1 (eGet 12 23 (eR 0)) (eI 1)))) sSkip)
  (sSeq (sIf (cZ 1 (eI 3)) (sSeq (sCall 12 F_Md_tellRing (eSnoc (eSnoc (eSnoc eNil (eR 0)) (eI 1)) (eI 2)))
  (sIf (cZ 1 (eGet 12 0 (eR 0))) (sRet 0 (eK (-1))) sSkip)) sSkip)
  (sSeq (sCall 12 F_Md_keepSet (eSnoc eNil (eR 0)))
  (sSeq (sCall 12 F_Md_walk (eSnoc (eSnoc (eSnoc (eSnoc (eSnoc eNil (eR 0)) (eI 1)) (eK (1))) (eK (0))) (eK (-1))))
  (sSeq (sLet 0 4 (eIf (cNot (cZ 1 (eAld 1 (eGet 12 23 (eR 0)) (eI 2)))) (eK (1)) (eK (0))))
  (sSeq (sLet 0 5 (eGet 12 3 (eR 0)))
  (sSeq (sPutOp 12 3 (eR 0) kAdd (eK (1)))
  (sSeq (sAst 0 (eGet 12 4 (eR 0)) (eI 5) (eI 1))
  (sSeq (sAst 0 (eGet 12 5 (eR 0)) (eI 5) (eI 2))
  (sSeq (sAst 0 (eGet 12 6 (eR 0)) (eI 5) (eK (0)))
  (sSeq (sAst 1 (eGet 12 7 (eR 0)) (eI 5) (eI 4))
  (sSeq (sAst 1 (eGet 12 8 (eR 0)) (eI 5) (eK (1)))
  (sSeq (sAst 1 (eGet 12 9 (eR 0)) (eI 5) (eK (1)))
  (sSeq (sAst 0 (eGet 12 11 (eR 0)) (eGet 12 10 (eR 0)) (eI 5))
  (sSeq (sPutOp 12 10 (eR 0) kAdd (eK (1)))
  (sSeq (sIf (cNot (cZ 1 (eI 3))) (sCall 12 F_Md_becomeOrdered (eSnoc (eSnoc eNil (eR 0)) (eI 5))) sSkip)
  (sSeq (sPut 12 17 (eR 0) (eK (0)))
  (sSeq (sPut 12 16 (eR 0) (eCall 12 F_Md_differ (eSnoc eNil (eR 0))))
  (sRet 0 (eI 5))))))))))))))))))))))))
abbrev M_Md_put : kM := (cX12_put, yX12_put.cls, 6, { frames := 3, cells := 0, slots := 0, locals := 68 }, (some .int))
set_option maxRecDepth 20000 in
theorem b_Md_put : kSt M_Md_put 0 0 0 0 s_Md_put :=
  (kSt_seq (p1 := 5) (kSt_put (kE_aload_0 dX12_put_0) (kE_ic_0 dX12_put_1) lp_RX12_136 dX12_put_2)
  (kSt_seq (p1 := 27) (kSt_if (kCd_or (kCd_not (kCd_Z (kE_call (kEs_snoc (kEs_snoc kEs_nil (kE_aload_0 dX12_put_5)) (kE_iload_1 dX12_put_6)) dX12_put_7 c_Md_isNode mv_Md_isNode lm_RX12_176 ⟨rfl, rfl, by decide, by decide⟩ (by decide)) (kZf_1 (tgt := 21) dX12_put_10 (by decide)))) (kCd_not (kCd_Z (kE_call (kEs_snoc (kEs_snoc kEs_nil (kE_aload_0 dX12_put_13)) (kE_iload_2 dX12_put_14)) dX12_put_15 c_Md_isNode mv_Md_isNode lm_RX12_176 ⟨rfl, rfl, by decide, by decide⟩ (by decide)) (kZt_1 (tgt := 27) dX12_put_18 (by decide))))) (kSt_ret (tag := 0) (kE_call (kEs_snoc (kEs_snoc kEs_nil (kE_aload_0 dX12_put_21)) (kE_ic_1 dX12_put_22)) dX12_put_23 c_Md_fail mv_Md_fail lm_RX12_164 ⟨rfl, rfl, by decide, by decide⟩ (by decide)) ⟨fun _ => dX12_put_26, fun q => (by cases q), fun q => (by cases q)⟩) kSt_skip)
  (kSt_seq (p1 := 53) (kSt_if (kCd_or (kCd_C (kE_get (kE_aload_0 dX12_put_27) lf_RX12_146 dX12_put_28) (kE_sipush dX12_put_31 (by rfl) ⟨by decide, by decide⟩) (kJt_0 (tgt := 47) dX12_put_34 (by decide))) (kCd_C (kE_get (kE_aload_0 dX12_put_37) lf_RX12_143 dX12_put_38) (kE_sipush dX12_put_41 (by rfl) ⟨by decide, by decide⟩) (kJf_0 (tgt := 53) dX12_put_44 (by decide)))) (kSt_ret (tag := 0) (kE_call (kEs_snoc (kEs_snoc kEs_nil (kE_aload_0 dX12_put_47)) (kE_ic_2 dX12_put_48)) dX12_put_49 c_Md_fail mv_Md_fail lm_RX12_164 ⟨rfl, rfl, by decide, by decide⟩ (by decide)) ⟨fun _ => dX12_put_52, fun q => (by cases q), fun q => (by cases q)⟩) kSt_skip)
  (kSt_seq (p1 := 64) (kSt_let (kE_if (kCd_C (kE_iload_1 dX12_put_53) (kE_iload_2 dX12_put_54) (kJf_0 (tgt := 62) dX12_put_55 (by decide))) (kE_goto (tgt := 63) (kE_ic_1 dX12_put_58) dX12_put_59 (by decide)) (kE_ic_0 dX12_put_62)) (kSet_istore_3 dX12_put_63 (by decide)))
  (kSt_seq (p1 := 84) (kSt_if (kCd_C (kE_iload_1 dX12_put_64) (kE_iload_2 dX12_put_65) (kJf_1 (tgt := 84) dX12_put_66 (by decide))) (kSt_seq (p1 := 77) (kSt_call (kEs_snoc (kEs_snoc (kEs_snoc (kEs_snoc (kEs_snoc kEs_nil (kE_aload_0 dX12_put_69)) (kE_iload_2 dX12_put_70)) (kE_ic_4 dX12_put_71)) (kE_ic_0 dX12_put_72)) (kE_ic_m1 dX12_put_73)) dX12_put_74 c_Md_walk mv_Md_walk lm_RX12_152 ⟨rfl, rfl, by decide, by decide⟩)
  (kSt_let (kE_zald (kE_get (kE_aload_0 dX12_put_77) lf_RX12_56 dX12_put_78) (kE_iload_1 dX12_put_81) dX12_put_82) (kSet_istore_3 dX12_put_83 (by decide)))) kSt_skip)
  (kSt_seq (p1 := 103) (kSt_if (kCd_Z (kE_iload_3 dX12_put_84) (kZf_1 (tgt := 103) dX12_put_85 (by decide))) (kSt_seq (p1 := 94) (kSt_call (kEs_snoc (kEs_snoc (kEs_snoc kEs_nil (kE_aload_0 dX12_put_88)) (kE_iload_1 dX12_put_89)) (kE_iload_2 dX12_put_90)) dX12_put_91 c_Md_tellRing mv_Md_tellRing lm_RX12_180 ⟨rfl, rfl, by decide, by decide⟩)
  (kSt_if (kCd_Z (kE_get (kE_aload_0 dX12_put_94) lf_RX12_132 dX12_put_95) (kZf_1 (tgt := 103) dX12_put_98 (by decide))) (kSt_ret (tag := 0) (kE_ic_m1 dX12_put_101) ⟨fun _ => dX12_put_102, fun q => (by cases q), fun q => (by cases q)⟩) kSt_skip)) kSt_skip)
  (kSt_seq (p1 := 107) (kSt_call (kEs_snoc kEs_nil (kE_aload_0 dX12_put_103)) dX12_put_104 c_Md_keepSet mv_Md_keepSet lm_RX12_184 ⟨rfl, rfl, by decide, by decide⟩)
  (kSt_seq (p1 := 115) (kSt_call (kEs_snoc (kEs_snoc (kEs_snoc (kEs_snoc (kEs_snoc kEs_nil (kE_aload_0 dX12_put_107)) (kE_iload_1 dX12_put_108)) (kE_ic_1 dX12_put_109)) (kE_ic_0 dX12_put_110)) (kE_ic_m1 dX12_put_111)) dX12_put_112 c_Md_walk mv_Md_walk lm_RX12_152 ⟨rfl, rfl, by decide, by decide⟩)
  (kSt_seq (p1 := 131) (kSt_let (kE_if (kCd_not (kCd_Z (kE_zald (kE_get (kE_aload_0 dX12_put_115) lf_RX12_56 dX12_put_116) (kE_iload_2 dX12_put_119) dX12_put_120) (kZt_1 (tgt := 128) dX12_put_121 (by decide)))) (kE_goto (tgt := 129) (kE_ic_1 dX12_put_124) dX12_put_125 (by decide)) (kE_ic_0 dX12_put_128)) (kSet_istore dX12_put_129 (by decide)))
  (kSt_seq (p1 := 137) (kSt_let (kE_get (kE_aload_0 dX12_put_131) lf_RX12_143 dX12_put_132) (kSet_istore dX12_put_135 (by decide)))
  (kSt_seq (p1 := 147) (kSt_putOp (kE_aload_0 dX12_put_137) dX12_put_138 lf_RX12_143 dX12_put_139 (kE_ic_1 dX12_put_142) (kOp_add dX12_put_143) lp_RX12_143 dX12_put_144)
  (kSt_seq (p1 := 155) (kSt_iast (kE_get (kE_aload_0 dX12_put_147) lf_RX12_13 dX12_put_148) (kE_iload dX12_put_151) (kE_iload_1 dX12_put_153) dX12_put_154)
  (kSt_seq (p1 := 163) (kSt_iast (kE_get (kE_aload_0 dX12_put_155) lf_RX12_16 dX12_put_156) (kE_iload dX12_put_159) (kE_iload_2 dX12_put_161) dX12_put_162)
  (kSt_seq (p1 := 171) (kSt_iast (kE_get (kE_aload_0 dX12_put_163) lf_RX12_19 dX12_put_164) (kE_iload dX12_put_167) (kE_ic_0 dX12_put_169) dX12_put_170)
  (kSt_seq (p1 := 180) (kSt_zast (kE_get (kE_aload_0 dX12_put_171) lf_RX12_22 dX12_put_172) (kE_iload dX12_put_175) (kE_iload dX12_put_177) dX12_put_179)
  (kSt_seq (p1 := 188) (kSt_zast (kE_get (kE_aload_0 dX12_put_180) lf_RX12_26 dX12_put_181) (kE_iload dX12_put_184) (kE_ic_1 dX12_put_186) dX12_put_187)
  (kSt_seq (p1 := 196) (kSt_zast (kE_get (kE_aload_0 dX12_put_188) lf_RX12_29 dX12_put_189) (kE_iload dX12_put_192) (kE_ic_1 dX12_put_194) dX12_put_195)
  (kSt_seq (p1 := 207) (kSt_iast (kE_get (kE_aload_0 dX12_put_196) lf_RX12_32 dX12_put_197) (kE_get (kE_aload_0 dX12_put_200) lf_RX12_146 dX12_put_201) (kE_iload dX12_put_204) dX12_put_206)
  (kSt_seq (p1 := 217) (kSt_putOp (kE_aload_0 dX12_put_207) dX12_put_208 lf_RX12_146 dX12_put_209 (kE_ic_1 dX12_put_212) (kOp_add dX12_put_213) lp_RX12_146 dX12_put_214)
  (kSt_seq (p1 := 227) (kSt_if (kCd_not (kCd_Z (kE_iload_3 dX12_put_217) (kZt_1 (tgt := 227) dX12_put_218 (by decide)))) (kSt_call (kEs_snoc (kEs_snoc kEs_nil (kE_aload_0 dX12_put_221)) (kE_iload dX12_put_222)) dX12_put_224 c_Md_becomeOrdered mv_Md_becomeOrdered lm_RX12_187 ⟨rfl, rfl, by decide, by decide⟩) kSt_skip)
  (kSt_seq (p1 := 232) (kSt_put (kE_aload_0 dX12_put_227) (kE_ic_0 dX12_put_228) lp_RX12_167 dX12_put_229)
  (kSt_seq (p1 := 240) (kSt_put (kE_aload_0 dX12_put_232) (kE_call (kEs_snoc kEs_nil (kE_aload_0 dX12_put_233)) dX12_put_234 c_Md_differ mv_Md_differ lm_RX12_191 ⟨rfl, rfl, by decide, by decide⟩ (by decide)) lp_RX12_194 dX12_put_237)
  (kSt_ret (tag := 0) (kE_iload dX12_put_240) ⟨fun _ => dX12_put_242, fun q => (by cases q), fun q => (by cases q)⟩)))))))))))))))))))))))
noncomputable def F_Md_put : kFn := kF 3 kI s_Md_put
theorem c_Md_put : kCon yX12_put cX12_put 6 (some .int) { frames := 3, cells := 0, slots := 0, locals := 68 } F_Md_put := kCon_of kEnds_I (by decide +kernel) (by decide) ⟨0, 0, 0, b_Md_put⟩
