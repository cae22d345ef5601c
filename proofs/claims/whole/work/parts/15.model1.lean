noncomputable def l_Md_chain_1 : kSx := sFor 4 (cC 2 (eI 3) (eI 1))
  (sE (eCall 12 F_Md_one (eSnoc (eSnoc eNil (eR 0)) (eK (0)))))
  (sInc 3 (1))
noncomputable def l_Md_chain_2 : kSx := sFor 4 (cC 2 (eBin kAdd (eI 3) (eK (1))) (eI 1))
  (sE (eCall 12 F_Md_put (eSnoc (eSnoc (eSnoc eNil (eR 0)) (eBin kAdd (eI 2) (eI 3))) (eBin kAdd (eBin kAdd (eI 2) (eI 3)) (eK (1))))))
  (sInc 3 (1))
noncomputable def s_Md_chain : kSx :=
  (sSeq (sPut 12 22 (eR 0) (eK (0)))
  (sSeq (sIf (cOr (cC 2 (eI 1) (eK (1))) (cC 4 (eI 1) (eK (300)))) (sRet 0 (eCall 12 F_Md_fail (eSnoc (eSnoc eNil (eR 0)) (eK (1))))) sSkip)
  (sSeq (sIf (cOr (cOr (cC 4 (eBin kAdd (eGet 12 1 (eR 0)) (eI 1)) (eK (300))) (cC 4 (eBin kSub (eBin kAdd (eGet 12 10 (eR 0)) (eI 1)) (eK (1))) (eK (900)))) (cC 4 (eBin kSub (eBin kAdd (eGet 12 3 (eR 0)) (eI 1)) (eK (1))) (eK (5000)))) (sRet 0 (eCall 12 F_Md_fail (eSnoc (eSnoc eNil (eR 0)) (eK (2))))) sSkip)
  (sSeq (sPut 12 17 (eR 0) (eK (0)))
  (sSeq (sLet 0 2 (eGet 12 1 (eR 0)))
  (sSeq (sTrunc 3 (sSeq (sLet 0 3 (eK (0))) l_Md_chain_1))
  (sSeq (sTrunc 3 (sSeq (sLet 0 3 (eK (0))) l_Md_chain_2))
  (sRet 0 (eI 2)))))))))
abbrev M_Md_chain : kM := (cX12_chain, yX12_chain.cls, 4, { frames := 4, cells := 0, slots := 0, locals := 93 }, (some .int))
set_option maxRecDepth 20000 in
theorem b_Md_chain : kSt M_Md_chain 0 0 0 0 s_Md_chain :=
  (kSt_seq (p1 := 5) (kSt_put (kE_aload_0 dX12_chain_0) (kE_ic_0 dX12_chain_1) lp_RX12_136 dX12_chain_2)
  (kSt_seq (p1 := 23) (kSt_if (kCd_or (kCd_C (kE_iload_1 dX12_chain_5) (kE_ic_1 dX12_chain_6) (kJt_2 (tgt := 17) dX12_chain_7 (by decide))) (kCd_C (kE_iload_1 dX12_chain_10) (kE_sipush dX12_chain_11 (by rfl) ⟨by decide, by decide⟩) (kJf_4 (tgt := 23) dX12_chain_14 (by decide)))) (kSt_ret (tag := 0) (kE_call (kEs_snoc (kEs_snoc kEs_nil (kE_aload_0 dX12_chain_17)) (kE_ic_1 dX12_chain_18)) dX12_chain_19 c_Md_fail mv_Md_fail lm_RX12_164 ⟨rfl, rfl, by decide, by decide⟩ (by decide)) ⟨fun _ => dX12_chain_22, fun q => (by cases q), fun q => (by cases q)⟩) kSt_skip)
  (kSt_seq (p1 := 69) (kSt_if (kCd_or (kCd_or (kCd_C (kE_bin (kE_get (kE_aload_0 dX12_chain_23) lf_RX12_140 dX12_chain_24) (kE_iload_1 dX12_chain_27) (kOp_add dX12_chain_28)) (kE_sipush dX12_chain_29 (by rfl) ⟨by decide, by decide⟩) (kJt_4 (tgt := 63) dX12_chain_32 (by decide))) (kCd_C (kE_bin (kE_bin (kE_get (kE_aload_0 dX12_chain_35) lf_RX12_146 dX12_chain_36) (kE_iload_1 dX12_chain_39) (kOp_add dX12_chain_40)) (kE_ic_1 dX12_chain_41) (kOp_sub dX12_chain_42)) (kE_sipush dX12_chain_43 (by rfl) ⟨by decide, by decide⟩) (kJt_4 (tgt := 63) dX12_chain_46 (by decide)))) (kCd_C (kE_bin (kE_bin (kE_get (kE_aload_0 dX12_chain_49) lf_RX12_143 dX12_chain_50) (kE_iload_1 dX12_chain_53) (kOp_add dX12_chain_54)) (kE_ic_1 dX12_chain_55) (kOp_sub dX12_chain_56)) (kE_sipush dX12_chain_57 (by rfl) ⟨by decide, by decide⟩) (kJf_4 (tgt := 69) dX12_chain_60 (by decide)))) (kSt_ret (tag := 0) (kE_call (kEs_snoc (kEs_snoc kEs_nil (kE_aload_0 dX12_chain_63)) (kE_ic_2 dX12_chain_64)) dX12_chain_65 c_Md_fail mv_Md_fail lm_RX12_164 ⟨rfl, rfl, by decide, by decide⟩ (by decide)) ⟨fun _ => dX12_chain_68, fun q => (by cases q), fun q => (by cases q)⟩) kSt_skip)
  (kSt_seq (p1 := 74) (kSt_put (kE_aload_0 dX12_chain_69) (kE_ic_0 dX12_chain_70) lp_RX12_167 dX12_chain_71)
  (kSt_seq (p1 := 79) (kSt_let (kE_get (kE_aload_0 dX12_chain_74) lf_RX12_140 dX12_chain_75) (kSet_istore_2 dX12_chain_78 (by decide)))
  (kSt_seq (p1 := 98) (kSt_trunc (kSt_seq (kSt_let (kE_ic_0 dX12_chain_79) (kSet_istore_3 dX12_chain_80 (by decide))) (kSt_for (pu := 92) (pt := 86) (kCd_C (kE_iload_3 dX12_chain_81) (kE_iload_1 dX12_chain_82) (kJf_2 (tgt := 98) dX12_chain_83 (by decide))) (kSt_E (kE_call (kEs_snoc (kEs_snoc kEs_nil (kE_aload_0 dX12_chain_86)) (kE_ic_0 dX12_chain_87)) dX12_chain_88 c_Md_one mv_Md_one lm_RX12_170 ⟨rfl, rfl, by decide, by decide⟩ (by decide)) dX12_chain_91) (kSt_goto (tgt := 81) (kSt_inc dX12_chain_92 (by decide)) dX12_chain_95 (by decide)))))
  (kSt_seq (p1 := 126) (kSt_trunc (kSt_seq (kSt_let (kE_ic_0 dX12_chain_98) (kSet_istore_3 dX12_chain_99 (by decide))) (kSt_for (pu := 120) (pt := 107) (kCd_C (kE_bin (kE_iload_3 dX12_chain_100) (kE_ic_1 dX12_chain_101) (kOp_add dX12_chain_102)) (kE_iload_1 dX12_chain_103) (kJf_2 (tgt := 126) dX12_chain_104 (by decide))) (kSt_E (kE_call (kEs_snoc (kEs_snoc (kEs_snoc kEs_nil (kE_aload_0 dX12_chain_107)) (kE_bin (kE_iload_2 dX12_chain_108) (kE_iload_3 dX12_chain_109) (kOp_add dX12_chain_110))) (kE_bin (kE_bin (kE_iload_2 dX12_chain_111) (kE_iload_3 dX12_chain_112) (kOp_add dX12_chain_113)) (kE_ic_1 dX12_chain_114) (kOp_add dX12_chain_115))) dX12_chain_116 c_Md_put mv_Md_put lm_RX12_172 ⟨rfl, rfl, by decide, by decide⟩ (by decide)) dX12_chain_119) (kSt_goto (tgt := 100) (kSt_inc dX12_chain_120 (by decide)) dX12_chain_123 (by decide)))))
  (kSt_ret (tag := 0) (kE_iload_2 dX12_chain_126) ⟨fun _ => dX12_chain_127, fun q => (by cases q), fun q => (by cases q)⟩))))))))
noncomputable def F_Md_chain : kFn := kF 2 kI s_Md_chain
theorem c_Md_chain : kCon yX12_chain cX12_chain 4 (some .int) { frames := 4, cells := 0, slots := 0, locals := 93 } F_Md_chain := kCon_of kEnds_I (by decide +kernel) (by decide) ⟨0, 0, 0, b_Md_chain⟩
noncomputable def l_Md_replace_1 : kSx := sFor 5 (cC 2 (eI 4) (eGet 12 1 (eR 0)))
  (sAst 1 (eGet 12 33 (eR 0)) (eI 4) (eAld 1 (eGet 12 23 (eR 0)) (eI 4)))
  (sInc 4 (1))
noncomputable def l_Md_replace_2 : kSx := sFor 6 (cC 2 (eI 5) (eGet 12 1 (eR 0)))
  (sSeq (sAst 1 (eGet 12 34 (eR 0)) (eI 5) (eIf (cZ 1 (eI 4)) (eAld 1 (eGet 12 23 (eR 0)) (eI 5)) (eAld 1 (eGet 12 33 (eR 0)) (eI 5))))
  (sAst 1 (eGet 12 35 (eR 0)) (eI 5) (eIf (cZ 1 (eI 4)) (eAld 1 (eGet 12 33 (eR 0)) (eI 5)) (eAld 1 (eGet 12 23 (eR 0)) (eI 5)))))
  (sInc 5 (1))
noncomputable def l_Md_replace_3 : kSx := sFor 6 (cC 2 (eI 5) (eGet 12 10 (eR 0)))
  (sTrunc 6 (sSeq (sLet 0 6 (eAld 0 (eGet 12 11 (eR 0)) (eI 5)))
  (sAstOp (eGet 12 6 (eR 0)) (eI 6) kAdd (eIf (cAnd (cAnd (cAnd (cZ 1 (eAld 1 (eGet 12 7 (eR 0)) (eI 6))) (cC 0 (eAld 0 (eGet 12 6 (eR 0)) (eI 6)) (eI 2))) (cZ 1 (eAld 1 (eGet 12 34 (eR 0)) (eAld 0 (eGet 12 4 (eR 0)) (eI 6))))) (cZ 1 (eAld 1 (eGet 12 34 (eR 0)) (eAld 0 (eGet 12 5 (eR 0)) (eI 6))))) (eK (1)) (eK (0))))))
  (sInc 5 (1))
noncomputable def l_Md_replace_4 : kSx := sFor 6 (cC 2 (eI 5) (eGet 12 10 (eR 0)))
  (sTrunc 6 (sSeq (sLet 0 6 (eAld 0 (eGet 12 11 (eR 0)) (eI 5)))
  (sSeq (sIf (cOr (cOr (cZ 1 (eAld 1 (eGet 12 7 (eR 0)) (eI 6))) (cC 1 (eAld 0 (eGet 12 6 (eR 0)) (eI 6)) (eI 2))) (cAnd (cNot (cZ 1 (eAld 1 (eGet 12 34 (eR 0)) (eAld 0 (eGet 12 4 (eR 0)) (eI 6))))) (cNot (cZ 1 (eAld 1 (eGet 12 34 (eR 0)) (eAld 0 (eGet 12 5 (eR 0)) (eI 6))))))) sCont sSkip)
  (sSeq (sIf (cOr (cZ 1 (eAld 1 (eGet 12 35 (eR 0)) (eAld 0 (eGet 12 4 (eR 0)) (eI 6)))) (cZ 1 (eAld 1 (eGet 12 35 (eR 0)) (eAld 0 (eGet 12 5 (eR 0)) (eI 6))))) (sSeq (sAst 1 (eGet 12 7 (eR 0)) (eI 6) (eK (1)))
  sRetV) sSkip)
  (sAstOp (eGet 12 6 (eR 0)) (eI 6) kAdd (eK (1)))))))
  (sInc 5 (1))
noncomputable def l_Md_replace_5 : kSx := sFor 3 (cZ 3 (eI 2))
  (sTrunc 3 (sSeq (sCall 12 F_Md_walk (eSnoc (eSnoc (eSnoc (eSnoc (eSnoc eNil (eR 0)) (eAld 0 (eGet 12 4 (eR 0)) (eI 1))) (eK (0))) (eI 2)) (eK (-1))))
  (sSeq (sLet 0 3 (eGet 12 27 (eR 0)))
  (sSeq (sTrunc 4 (sSeq (sLet 0 4 (eK (0))) l_Md_replace_1))
  (sSeq (sCall 12 F_Md_walk (eSnoc (eSnoc (eSnoc (eSnoc (eSnoc eNil (eR 0)) (eAld 0 (eGet 12 5 (eR 0)) (eI 1))) (eK (0))) (eI 2)) (eK (-1))))
  (sSeq (sLet 0 4 (eIf (cC 2 (eGet 12 27 (eR 0)) (eI 3)) (eK (1)) (eK (0))))
  (sSeq (sTrunc 5 (sSeq (sLet 0 5 (eK (0))) l_Md_replace_2))
  (sSeq (sTrunc 5 (sSeq (sLet 0 5 (eK (0))) l_Md_replace_3))
  (sTrunc 5 (sSeq (sLet 0 5 (eK (0))) l_Md_replace_4))))))))))
  (sInc 2 (-1))
noncomputable def s_Md_replace : kSx :=
  (sSeq (sTrunc 2 (sSeq (sLet 0 2 (eAld 0 (eGet 12 6 (eR 0)) (eI 1))) l_Md_replace_5)) sRetV)
abbrev M_Md_replace : kM := (cX12_replace, yX12_replace.cls, 7, { frames := 1, cells := 0, slots := 0, locals := 28 }, none)
set_option maxRecDepth 20000 in
theorem b_Md_replace : kSt M_Md_replace 0 0 0 0 s_Md_replace :=
  (kSt_seq (kSt_trunc (kSt_seq (kSt_let (kE_iald (kE_get (kE_aload_0 dX12_replace_0) lf_RX12_19 dX12_replace_1) (kE_iload_1 dX12_replace_4) dX12_replace_5) (kSet_istore_2 dX12_replace_6 (by decide))) (kSt_for (pu := 389) (pt := 11) (kCd_Z (kE_iload_2 dX12_replace_7) (kZf_3 (tgt := 395) dX12_replace_8 (by decide))) (kSt_trunc (kSt_seq (p1 := 24) (kSt_call (kEs_snoc (kEs_snoc (kEs_snoc (kEs_snoc (kEs_snoc kEs_nil (kE_aload_0 dX12_replace_11)) (kE_iald (kE_get (kE_aload_0 dX12_replace_12) lf_RX12_13 dX12_replace_13) (kE_iload_1 dX12_replace_16) dX12_replace_17)) (kE_ic_0 dX12_replace_18)) (kE_iload_2 dX12_replace_19)) (kE_ic_m1 dX12_replace_20)) dX12_replace_21 c_Md_walk mv_Md_walk lm_RX12_152 ⟨rfl, rfl, by decide, by decide⟩)
  (kSt_seq (p1 := 29) (kSt_let (kE_get (kE_aload_0 dX12_replace_24) lf_RX12_149 dX12_replace_25) (kSet_istore_3 dX12_replace_28 (by decide)))
  (kSt_seq (p1 := 61) (kSt_trunc (kSt_seq (kSt_let (kE_ic_0 dX12_replace_29) (kSet_istore dX12_replace_30 (by decide))) (kSt_for (pu := 55) (pt := 41) (kCd_C (kE_iload dX12_replace_32) (kE_get (kE_aload_0 dX12_replace_34) lf_RX12_140 dX12_replace_35) (kJf_2 (tgt := 61) dX12_replace_38 (by decide))) (kSt_zast (kE_get (kE_aload_0 dX12_replace_41) lf_RX12_83 dX12_replace_42) (kE_iload dX12_replace_45) (kE_zald (kE_get (kE_aload_0 dX12_replace_47) lf_RX12_56 dX12_replace_48) (kE_iload dX12_replace_51) dX12_replace_53) dX12_replace_54) (kSt_goto (tgt := 32) (kSt_inc dX12_replace_55 (by decide)) dX12_replace_58 (by decide)))))
  (kSt_seq (p1 := 74) (kSt_call (kEs_snoc (kEs_snoc (kEs_snoc (kEs_snoc (kEs_snoc kEs_nil (kE_aload_0 dX12_replace_61)) (kE_iald (kE_get (kE_aload_0 dX12_replace_62) lf_RX12_16 dX12_replace_63) (kE_iload_1 dX12_replace_66) dX12_replace_67)) (kE_ic_0 dX12_replace_68)) (kE_iload_2 dX12_replace_69)) (kE_ic_m1 dX12_replace_70)) dX12_replace_71 c_Md_walk mv_Md_walk lm_RX12_152 ⟨rfl, rfl, by decide, by decide⟩)
  (kSt_seq (p1 := 89) (kSt_let (kE_if (kCd_C (kE_get (kE_aload_0 dX12_replace_74) lf_RX12_149 dX12_replace_75) (kE_iload_3 dX12_replace_78) (kJf_2 (tgt := 86) dX12_replace_79 (by decide))) (kE_goto (tgt := 87) (kE_ic_1 dX12_replace_82) dX12_replace_83 (by decide)) (kE_ic_0 dX12_replace_86)) (kSet_istore dX12_replace_87 (by decide)))
  (kSt_seq (p1 := 165) (kSt_trunc (kSt_seq (kSt_let (kE_ic_0 dX12_replace_89) (kSet_istore dX12_replace_90 (by decide))) (kSt_for (pu := 159) (pt := 101) (kCd_C (kE_iload dX12_replace_92) (kE_get (kE_aload_0 dX12_replace_94) lf_RX12_140 dX12_replace_95) (kJf_2 (tgt := 165) dX12_replace_98 (by decide))) (kSt_seq (p1 := 130) (kSt_zast (kE_get (kE_aload_0 dX12_replace_101) lf_RX12_86 dX12_replace_102) (kE_iload dX12_replace_105) (kE_if (kCd_Z (kE_iload dX12_replace_107) (kZf_1 (tgt := 122) dX12_replace_109 (by decide))) (kE_goto (tgt := 129) (kE_zald (kE_get (kE_aload_0 dX12_replace_112) lf_RX12_56 dX12_replace_113) (kE_iload dX12_replace_116) dX12_replace_118) dX12_replace_119 (by decide)) (kE_zald (kE_get (kE_aload_0 dX12_replace_122) lf_RX12_83 dX12_replace_123) (kE_iload dX12_replace_126) dX12_replace_128)) dX12_replace_129)
  (kSt_zast (kE_get (kE_aload_0 dX12_replace_130) lf_RX12_89 dX12_replace_131) (kE_iload dX12_replace_134) (kE_if (kCd_Z (kE_iload dX12_replace_136) (kZf_1 (tgt := 151) dX12_replace_138 (by decide))) (kE_goto (tgt := 158) (kE_zald (kE_get (kE_aload_0 dX12_replace_141) lf_RX12_83 dX12_replace_142) (kE_iload dX12_replace_145) dX12_replace_147) dX12_replace_148 (by decide)) (kE_zald (kE_get (kE_aload_0 dX12_replace_151) lf_RX12_56 dX12_replace_152) (kE_iload dX12_replace_155) dX12_replace_157)) dX12_replace_158)) (kSt_goto (tgt := 92) (kSt_inc dX12_replace_159 (by decide)) dX12_replace_162 (by decide)))))
  (kSt_seq (p1 := 258) (kSt_trunc (kSt_seq (kSt_let (kE_ic_0 dX12_replace_165) (kSet_istore dX12_replace_166 (by decide))) (kSt_for (pu := 252) (pt := 177) (kCd_C (kE_iload dX12_replace_168) (kE_get (kE_aload_0 dX12_replace_170) lf_RX12_146 dX12_replace_171) (kJf_2 (tgt := 258) dX12_replace_174 (by decide))) (kSt_trunc (kSt_seq (p1 := 186) (kSt_let (kE_iald (kE_get (kE_aload_0 dX12_replace_177) lf_RX12_32 dX12_replace_178) (kE_iload dX12_replace_181) dX12_replace_183) (kSet_istore dX12_replace_184 (by decide)))
  (kSt_iastOp (kE_get (kE_aload_0 dX12_replace_186) lf_RX12_19 dX12_replace_187) (kE_iload dX12_replace_190) dX12_replace_192 dX12_replace_193 (kE_if (kCd_and (kCd_and (kCd_and (kCd_Z (kE_zald (kE_get (kE_aload_0 dX12_replace_194) lf_RX12_22 dX12_replace_195) (kE_iload dX12_replace_198) dX12_replace_200) (kZf_1 (tgt := 249) dX12_replace_201 (by decide))) (kCd_C (kE_iald (kE_get (kE_aload_0 dX12_replace_204) lf_RX12_19 dX12_replace_205) (kE_iload dX12_replace_208) dX12_replace_210) (kE_iload_2 dX12_replace_211) (kJf_0 (tgt := 249) dX12_replace_212 (by decide)))) (kCd_Z (kE_zald (kE_get (kE_aload_0 dX12_replace_215) lf_RX12_86 dX12_replace_216) (kE_iald (kE_get (kE_aload_0 dX12_replace_219) lf_RX12_13 dX12_replace_220) (kE_iload dX12_replace_223) dX12_replace_225) dX12_replace_226) (kZf_1 (tgt := 249) dX12_replace_227 (by decide)))) (kCd_Z (kE_zald (kE_get (kE_aload_0 dX12_replace_230) lf_RX12_86 dX12_replace_231) (kE_iald (kE_get (kE_aload_0 dX12_replace_234) lf_RX12_16 dX12_replace_235) (kE_iload dX12_replace_238) dX12_replace_240) dX12_replace_241) (kZf_1 (tgt := 249) dX12_replace_242 (by decide)))) (kE_goto (tgt := 250) (kE_ic_1 dX12_replace_245) dX12_replace_246 (by decide)) (kE_ic_0 dX12_replace_249)) (kOp_add dX12_replace_250) dX12_replace_251))) (kSt_goto (tgt := 168) (kSt_inc dX12_replace_252 (by decide)) dX12_replace_255 (by decide)))))
  (kSt_trunc (kSt_seq (kSt_let (kE_ic_0 dX12_replace_258) (kSet_istore dX12_replace_259 (by decide))) (kSt_for (pu := 383) (pt := 270) (kCd_C (kE_iload dX12_replace_261) (kE_get (kE_aload_0 dX12_replace_263) lf_RX12_146 dX12_replace_264) (kJf_2 (tgt := 389) dX12_replace_267 (by decide))) (kSt_trunc (kSt_seq (p1 := 279) (kSt_let (kE_iald (kE_get (kE_aload_0 dX12_replace_270) lf_RX12_32 dX12_replace_271) (kE_iload dX12_replace_274) dX12_replace_276) (kSet_istore dX12_replace_277 (by decide)))
  (kSt_seq (p1 := 333) (kSt_if (kCd_or (kCd_or (kCd_Z (kE_zald (kE_get (kE_aload_0 dX12_replace_279) lf_RX12_22 dX12_replace_280) (kE_iload dX12_replace_283) dX12_replace_285) (kZt_1 (tgt := 383) dX12_replace_286 (by decide))) (kCd_C (kE_iald (kE_get (kE_aload_0 dX12_replace_289) lf_RX12_19 dX12_replace_290) (kE_iload dX12_replace_293) dX12_replace_295) (kE_iload_2 dX12_replace_296) (kJt_1 (tgt := 383) dX12_replace_297 (by decide)))) (kCd_gt (tgt := 383) (kCd_and (kCd_not (kCd_Z (kE_zald (kE_get (kE_aload_0 dX12_replace_300) lf_RX12_86 dX12_replace_301) (kE_iald (kE_get (kE_aload_0 dX12_replace_304) lf_RX12_13 dX12_replace_305) (kE_iload dX12_replace_308) dX12_replace_310) dX12_replace_311) (kZt_1 (tgt := 333) dX12_replace_312 (by decide)))) (kCd_not (kCd_Z (kE_zald (kE_get (kE_aload_0 dX12_replace_315) lf_RX12_86 dX12_replace_316) (kE_iald (kE_get (kE_aload_0 dX12_replace_319) lf_RX12_16 dX12_replace_320) (kE_iload dX12_replace_323) dX12_replace_325) dX12_replace_326) (kZt_1 (tgt := 333) dX12_replace_327 (by decide))))) dX12_replace_330 (by decide))) kSt_cont kSt_skip)
  (kSt_seq (p1 := 372) (kSt_if (kCd_or (kCd_Z (kE_zald (kE_get (kE_aload_0 dX12_replace_333) lf_RX12_89 dX12_replace_334) (kE_iald (kE_get (kE_aload_0 dX12_replace_337) lf_RX12_13 dX12_replace_338) (kE_iload dX12_replace_341) dX12_replace_343) dX12_replace_344) (kZt_1 (tgt := 363) dX12_replace_345 (by decide))) (kCd_Z (kE_zald (kE_get (kE_aload_0 dX12_replace_348) lf_RX12_89 dX12_replace_349) (kE_iald (kE_get (kE_aload_0 dX12_replace_352) lf_RX12_16 dX12_replace_353) (kE_iload dX12_replace_356) dX12_replace_358) dX12_replace_359) (kZf_1 (tgt := 372) dX12_replace_360 (by decide)))) (kSt_seq (p1 := 371) (kSt_zast (kE_get (kE_aload_0 dX12_replace_363) lf_RX12_22 dX12_replace_364) (kE_iload dX12_replace_367) (kE_ic_1 dX12_replace_369) dX12_replace_370)
  (kSt_retV dX12_replace_371)) kSt_skip)
  (kSt_iastOp (kE_get (kE_aload_0 dX12_replace_372) lf_RX12_19 dX12_replace_373) (kE_iload dX12_replace_376) dX12_replace_378 dX12_replace_379 (kE_ic_1 dX12_replace_380) (kOp_add dX12_replace_381) dX12_replace_382))))) (kSt_goto (tgt := 261) (kSt_inc dX12_replace_383 (by decide)) dX12_replace_386 (by decide))))))))))))) (kSt_goto (tgt := 7) (kSt_inc dX12_replace_389 (by decide)) dX12_replace_392 (by decide))))) (kSt_retV dX12_replace_395))
noncomputable def F_Md_replace : kFn := kF 2 kN s_Md_replace
theorem c_Md_replace : kCon yX12_replace cX12_replace 7 none { frames := 1, cells := 0, slots := 0, locals := 28 } F_Md_replace := kCon_of kEnds_V (by decide +kernel) (by decide) ⟨0, 0, 0, b_Md_replace⟩
noncomputable def l_Md_take_1 : kSx := sFor 3 (cC 1 (eAld 0 (eGet 12 11 (eR 0)) (eI 2)) (eI 1))
  (sInc 2 (1))
  sSkip
noncomputable def l_Md_take_2 : kSx := sFor 3 (cC 2 (eI 2) (eGet 12 10 (eR 0)))
  (sAst 0 (eGet 12 11 (eR 0)) (eI 2) (eAld 0 (eGet 12 11 (eR 0)) (eBin kAdd (eI 2) (eK (1)))))
  (sInc 2 (1))
noncomputable def l_Md_take_3 : kSx := sFor 4 (cC 2 (eI 3) (eGet 12 10 (eR 0)))
  (sTrunc 4 (sSeq (sLet 0 4 (eAld 0 (eGet 12 11 (eR 0)) (eI 3)))
  (sIf (cAnd (cZ 1 (eAld 1 (eGet 12 8 (eR 0)) (eI 4))) (cC 1 (eAld 0 (eGet 12 4 (eR 0)) (eI 4)) (eAld 0 (eGet 12 5 (eR 0)) (eI 4)))) (sSeq (sCall 12 F_Md_walk (eSnoc (eSnoc (eSnoc (eSnoc (eSnoc eNil (eR 0)) (eAld 0 (eGet 12 5 (eR 0)) (eI 4))) (eK (4))) (eK (0))) (eK (-1))))
  (sIf (cNot (cZ 1 (eAld 1 (eGet 12 23 (eR 0)) (eAld 0 (eGet 12 4 (eR 0)) (eI 4))))) (sCall 12 F_Md_becomeOrdered (eSnoc (eSnoc eNil (eR 0)) (eI 4))) sSkip)) sSkip)))
  (sInc 3 (1))
noncomputable def s_Md_take : kSx :=
  (sSeq (sPut 12 22 (eR 0) (eK (0)))
  (sSeq (sIf (cNot (cZ 1 (eCall 12 F_Md_isArc (eSnoc (eSnoc eNil (eR 0)) (eI 1))))) (sRet 0 (eCall 12 F_Md_fail (eSnoc (eSnoc eNil (eR 0)) (eK (1))))) sSkip)
  (sSeq (sCall 12 F_Md_keepSet (eSnoc eNil (eR 0)))
  (sSeq (sAst 1 (eGet 12 9 (eR 0)) (eI 1) (eK (0)))
  (sSeq (sLet 0 2 (eK (0)))
  (sSeq l_Md_take_1
  (sSeq (sPutOp 12 10 (eR 0) kSub (eK (1)))
  (sSeq l_Md_take_2
  (sSeq (sIf (cZ 1 (eAld 1 (eGet 12 7 (eR 0)) (eI 1))) (sCall 12 F_Md_replace (eSnoc (eSnoc eNil (eR 0)) (eI 1))) sSkip)
  (sSeq (sIf (cNot (cZ 1 (eAld 1 (eGet 12 8 (eR 0)) (eI 1)))) (sTrunc 3 (sSeq (sLet 0 3 (eK (0))) l_Md_take_3)) sSkip)
  (sSeq (sPut 12 17 (eR 0) (eK (0)))
  (sSeq (sPut 12 16 (eR 0) (eCall 12 F_Md_differ (eSnoc eNil (eR 0))))
  (sRet 0 (eCall 12 F_Md_partsNow (eSnoc eNil (eR 0))))))))))))))))
abbrev M_Md_take : kM := (cX12_take, yX12_take.cls, 5, { frames := 3, cells := 0, slots := 0, locals := 71 }, (some .int))
set_option maxRecDepth 20000 in
theorem b_Md_take : kSt M_Md_take 0 0 0 0 s_Md_take :=
  (kSt_seq (p1 := 5) (kSt_put (kE_aload_0 dX12_take_0) (kE_ic_0 dX12_take_1) lp_RX12_136 dX12_take_2)
  (kSt_seq (p1 := 19) (kSt_if (kCd_not (kCd_Z (kE_call (kEs_snoc (kEs_snoc kEs_nil (kE_aload_0 dX12_take_5)) (kE_iload_1 dX12_take_6)) dX12_take_7 c_Md_isArc mv_Md_isArc lm_RX12_200 ⟨rfl, rfl, by decide, by decide⟩ (by decide)) (kZt_1 (tgt := 19) dX12_take_10 (by decide)))) (kSt_ret (tag := 0) (kE_call (kEs_snoc (kEs_snoc kEs_nil (kE_aload_0 dX12_take_13)) (kE_ic_1 dX12_take_14)) dX12_take_15 c_Md_fail mv_Md_fail lm_RX12_164 ⟨rfl, rfl, by decide, by decide⟩ (by decide)) ⟨fun _ => dX12_take_18, fun q => (by cases q), fun q => (by cases q)⟩) kSt_skip)
  (kSt_seq (p1 := 23) (kSt_call (kEs_snoc kEs_nil (kE_aload_0 dX12_take_19)) dX12_take_20 c_Md_keepSet mv_Md_keepSet lm_RX12_184 ⟨rfl, rfl, by decide, by decide⟩)
  (kSt_seq (p1 := 30) (kSt_zast (kE_get (kE_aload_0 dX12_take_23) lf_RX12_29 dX12_take_24) (kE_iload_1 dX12_take_27) (kE_ic_0 dX12_take_28) dX12_take_29)
  (kSt_seq (p1 := 32) (kSt_let (kE_ic_0 dX12_take_30) (kSet_istore_2 dX12_take_31 (by decide)))
  (kSt_seq (p1 := 48) (kSt_for (pu := 32) (pt := 42) (kCd_C (kE_iald (kE_get (kE_aload_0 dX12_take_32) lf_RX12_32 dX12_take_33) (kE_iload_2 dX12_take_36) dX12_take_37) (kE_iload_1 dX12_take_38) (kJf_1 (tgt := 48) dX12_take_39 (by decide))) (kSt_goto (tgt := 32) (kSt_inc dX12_take_42 (by decide)) dX12_take_45 (by decide)) kSt_skip)
  (kSt_seq (p1 := 58) (kSt_putOp (kE_aload_0 dX12_take_48) dX12_take_49 lf_RX12_146 dX12_take_50 (kE_ic_1 dX12_take_53) (kOp_sub dX12_take_54) lp_RX12_146 dX12_take_55)
  (kSt_seq (p1 := 86) (kSt_for (pu := 80) (pt := 66) (kCd_C (kE_iload_2 dX12_take_58) (kE_get (kE_aload_0 dX12_take_59) lf_RX12_146 dX12_take_60) (kJf_2 (tgt := 86) dX12_take_63 (by decide))) (kSt_iast (kE_get (kE_aload_0 dX12_take_66) lf_RX12_32 dX12_take_67) (kE_iload_2 dX12_take_70) (kE_iald (kE_get (kE_aload_0 dX12_take_71) lf_RX12_32 dX12_take_72) (kE_bin (kE_iload_2 dX12_take_75) (kE_ic_1 dX12_take_76) (kOp_add dX12_take_77)) dX12_take_78) dX12_take_79) (kSt_goto (tgt := 58) (kSt_inc dX12_take_80 (by decide)) dX12_take_83 (by decide)))
  (kSt_seq (p1 := 100) (kSt_if (kCd_Z (kE_zald (kE_get (kE_aload_0 dX12_take_86) lf_RX12_22 dX12_take_87) (kE_iload_1 dX12_take_90) dX12_take_91) (kZf_1 (tgt := 100) dX12_take_92 (by decide))) (kSt_call (kEs_snoc (kEs_snoc kEs_nil (kE_aload_0 dX12_take_95)) (kE_iload_1 dX12_take_96)) dX12_take_97 c_Md_replace mv_Md_replace lm_RX12_203 ⟨rfl, rfl, by decide, by decide⟩) kSt_skip)
  (kSt_seq (p1 := 195) (kSt_if (kCd_not (kCd_Z (kE_zald (kE_get (kE_aload_0 dX12_take_100) lf_RX12_26 dX12_take_101) (kE_iload_1 dX12_take_104) dX12_take_105) (kZt_1 (tgt := 195) dX12_take_106 (by decide)))) (kSt_trunc (kSt_seq (kSt_let (kE_ic_0 dX12_take_109) (kSet_istore_3 dX12_take_110 (by decide))) (kSt_for (pu := 189) (pt := 119) (kCd_C (kE_iload_3 dX12_take_111) (kE_get (kE_aload_0 dX12_take_112) lf_RX12_146 dX12_take_113) (kJf_2 (tgt := 195) dX12_take_116 (by decide))) (kSt_trunc (kSt_seq (p1 := 127) (kSt_let (kE_iald (kE_get (kE_aload_0 dX12_take_119) lf_RX12_32 dX12_take_120) (kE_iload_3 dX12_take_123) dX12_take_124) (kSet_istore dX12_take_125 (by decide)))
  (kSt_if (kCd_and (kCd_Z (kE_zald (kE_get (kE_aload_0 dX12_take_127) lf_RX12_26 dX12_take_128) (kE_iload dX12_take_131) dX12_take_133) (kZf_1 (tgt := 189) dX12_take_134 (by decide))) (kCd_C (kE_iald (kE_get (kE_aload_0 dX12_take_137) lf_RX12_13 dX12_take_138) (kE_iload dX12_take_141) dX12_take_143) (kE_iald (kE_get (kE_aload_0 dX12_take_144) lf_RX12_16 dX12_take_145) (kE_iload dX12_take_148) dX12_take_150) (kJf_1 (tgt := 189) dX12_take_151 (by decide)))) (kSt_seq (p1 := 168) (kSt_call (kEs_snoc (kEs_snoc (kEs_snoc (kEs_snoc (kEs_snoc kEs_nil (kE_aload_0 dX12_take_154)) (kE_iald (kE_get (kE_aload_0 dX12_take_155) lf_RX12_16 dX12_take_156) (kE_iload dX12_take_159) dX12_take_161)) (kE_ic_4 dX12_take_162)) (kE_ic_0 dX12_take_163)) (kE_ic_m1 dX12_take_164)) dX12_take_165 c_Md_walk mv_Md_walk lm_RX12_152 ⟨rfl, rfl, by decide, by decide⟩)
  (kSt_if (kCd_not (kCd_Z (kE_zald (kE_get (kE_aload_0 dX12_take_168) lf_RX12_56 dX12_take_169) (kE_iald (kE_get (kE_aload_0 dX12_take_172) lf_RX12_13 dX12_take_173) (kE_iload dX12_take_176) dX12_take_178) dX12_take_179) (kZt_1 (tgt := 189) dX12_take_180 (by decide)))) (kSt_call (kEs_snoc (kEs_snoc kEs_nil (kE_aload_0 dX12_take_183)) (kE_iload dX12_take_184)) dX12_take_186 c_Md_becomeOrdered mv_Md_becomeOrdered lm_RX12_187 ⟨rfl, rfl, by decide, by decide⟩) kSt_skip)) kSt_skip))) (kSt_goto (tgt := 111) (kSt_inc dX12_take_189 (by decide)) dX12_take_192 (by decide))))) kSt_skip)
  (kSt_seq (p1 := 200) (kSt_put (kE_aload_0 dX12_take_195) (kE_ic_0 dX12_take_196) lp_RX12_167 dX12_take_197)
  (kSt_seq (p1 := 208) (kSt_put (kE_aload_0 dX12_take_200) (kE_call (kEs_snoc kEs_nil (kE_aload_0 dX12_take_201)) dX12_take_202 c_Md_differ mv_Md_differ lm_RX12_191 ⟨rfl, rfl, by decide, by decide⟩ (by decide)) lp_RX12_194 dX12_take_205)
  (kSt_ret (tag := 0) (kE_call (kEs_snoc kEs_nil (kE_aload_0 dX12_take_208)) dX12_take_209 c_Md_partsNow mv_Md_partsNow lm_RX12_206 ⟨rfl, rfl, by decide, by decide⟩ (by decide)) ⟨fun _ => dX12_take_212, fun q => (by cases q), fun q => (by cases q)⟩)))))))))))))
noncomputable def F_Md_take : kFn := kF 2 kI s_Md_take
theorem c_Md_take : kCon yX12_take cX12_take 5 (some .int) { frames := 3, cells := 0, slots := 0, locals := 71 } F_Md_take := kCon_of kEnds_I (by decide +kernel) (by decide) ⟨0, 0, 0, b_Md_take⟩
noncomputable def l_Md_cores_1 : kSx := sFor 2 (cC 2 (eI 1) (eGet 12 1 (eR 0)))
  (sSeq (sAst 0 (eGet 12 42 (eR 0)) (eI 1) (eAld 0 (eGet 12 37 (eR 0)) (eI 1)))
  (sAst 1 (eGet 12 40 (eR 0)) (eI 1) (eK (0))))
  (sInc 1 (1))
noncomputable def l_Md_cores_2 : kSx := sFor 5 (cC 2 (eI 4) (eGet 12 1 (eR 0)))
  (sLet 0 3 (eIf (cAnd (cNot (cZ 1 (eAld 1 (eGet 12 40 (eR 0)) (eI 4)))) (cOr (cC 0 (eI 3) (eK (-1))) (cC 2 (eAld 0 (eGet 12 42 (eR 0)) (eI 4)) (eAld 0 (eGet 12 42 (eR 0)) (eI 3))))) (eI 4) (eI 3)))
  (sInc 4 (1))
noncomputable def l_Md_cores_3 : kSx := sFor 5 (cC 2 (eI 4) (eGet 12 1 (eR 0)))
  (sAstOp (eGet 12 42 (eR 0)) (eI 4) kSub (eIf (cZ 1 (eAld 1 (eGet 12 36 (eR 0)) (eBin kAdd (eBin kMul (eK (300)) (eI 3)) (eI 4)))) (eK (1)) (eK (0))))
  (sInc 4 (1))
noncomputable def l_Md_cores_4 : kSx := sFor 3 (cC 2 (eI 2) (eGet 12 1 (eR 0)))
  (sTrunc 3 (sSeq (sLet 0 3 (eK (-1)))
  (sSeq (sTrunc 4 (sSeq (sLet 0 4 (eK (0))) l_Md_cores_2))
  (sSeq (sLet 0 1 (eIf (cC 4 (eAld 0 (eGet 12 42 (eR 0)) (eI 3)) (eI 1)) (eAld 0 (eGet 12 42 (eR 0)) (eI 3)) (eI 1)))
  (sSeq (sAst 0 (eGet 12 41 (eR 0)) (eI 3) (eI 1))
  (sSeq (sAst 1 (eGet 12 40 (eR 0)) (eI 3) (eK (1)))
  (sTrunc 4 (sSeq (sLet 0 4 (eK (0))) l_Md_cores_3))))))))
  (sInc 2 (1))
noncomputable def s_Md_cores : kSx :=
  (sSeq (sSeq (sCall 12 F_Md_neighbours (eSnoc eNil (eR 0)))
  (sSeq (sTrunc 1 (sSeq (sLet 0 1 (eK (0))) l_Md_cores_1))
  (sSeq (sLet 0 1 (eK (0)))
  (sTrunc 2 (sSeq (sLet 0 2 (eK (0))) l_Md_cores_4))))) sRetV)
abbrev M_Md_cores : kM := (cX12_cores, yX12_cores.cls, 5, { frames := 1, cells := 0, slots := 0, locals := 23 }, none)
set_option maxRecDepth 20000 in
theorem b_Md_cores : kSt M_Md_cores 0 0 0 0 s_Md_cores :=
  (kSt_seq (kSt_seq (p1 := 4) (kSt_call (kEs_snoc kEs_nil (kE_aload_0 dX12_cores_0)) dX12_cores_1 c_Md_neighbours mv_Md_neighbours lm_RX12_209 ⟨rfl, rfl, by decide, by decide⟩)
  (kSt_seq (p1 := 39) (kSt_trunc (kSt_seq (kSt_let (kE_ic_0 dX12_cores_4) (kSet_istore_1 dX12_cores_5 (by decide))) (kSt_for (pu := 33) (pt := 14) (kCd_C (kE_iload_1 dX12_cores_6) (kE_get (kE_aload_0 dX12_cores_7) lf_RX12_140 dX12_cores_8) (kJf_2 (tgt := 39) dX12_cores_11 (by decide))) (kSt_seq (p1 := 26) (kSt_iast (kE_get (kE_aload_0 dX12_cores_14) lf_RX12_111 dX12_cores_15) (kE_iload_1 dX12_cores_18) (kE_iald (kE_get (kE_aload_0 dX12_cores_19) lf_RX12_96 dX12_cores_20) (kE_iload_1 dX12_cores_23) dX12_cores_24) dX12_cores_25)
  (kSt_zast (kE_get (kE_aload_0 dX12_cores_26) lf_RX12_105 dX12_cores_27) (kE_iload_1 dX12_cores_30) (kE_ic_0 dX12_cores_31) dX12_cores_32)) (kSt_goto (tgt := 6) (kSt_inc dX12_cores_33 (by decide)) dX12_cores_36 (by decide)))))
  (kSt_seq (p1 := 41) (kSt_let (kE_ic_0 dX12_cores_39) (kSet_istore_1 dX12_cores_40 (by decide)))
  (kSt_trunc (kSt_seq (kSt_let (kE_ic_0 dX12_cores_41) (kSet_istore_2 dX12_cores_42 (by decide))) (kSt_for (pu := 193) (pt := 51) (kCd_C (kE_iload_2 dX12_cores_43) (kE_get (kE_aload_0 dX12_cores_44) lf_RX12_140 dX12_cores_45) (kJf_2 (tgt := 199) dX12_cores_48 (by decide))) (kSt_trunc (kSt_seq (p1 := 53) (kSt_let (kE_ic_m1 dX12_cores_51) (kSet_istore_3 dX12_cores_52 (by decide)))
  (kSt_seq (p1 := 109) (kSt_trunc (kSt_seq (kSt_let (kE_ic_0 dX12_cores_53) (kSet_istore dX12_cores_54 (by decide))) (kSt_for (pu := 103) (pt := 65) (kCd_C (kE_iload dX12_cores_56) (kE_get (kE_aload_0 dX12_cores_58) lf_RX12_140 dX12_cores_59) (kJf_2 (tgt := 109) dX12_cores_62 (by decide))) (kSt_let (kE_if (kCd_and (kCd_not (kCd_Z (kE_zald (kE_get (kE_aload_0 dX12_cores_65) lf_RX12_105 dX12_cores_66) (kE_iload dX12_cores_69) dX12_cores_71) (kZt_1 (tgt := 101) dX12_cores_72 (by decide)))) (kCd_or (kCd_C (kE_iload_3 dX12_cores_75) (kE_ic_m1 dX12_cores_76) (kJt_0 (tgt := 96) dX12_cores_77 (by decide))) (kCd_C (kE_iald (kE_get (kE_aload_0 dX12_cores_80) lf_RX12_111 dX12_cores_81) (kE_iload dX12_cores_84) dX12_cores_86) (kE_iald (kE_get (kE_aload_0 dX12_cores_87) lf_RX12_111 dX12_cores_88) (kE_iload_3 dX12_cores_91) dX12_cores_92) (kJf_2 (tgt := 101) dX12_cores_93 (by decide))))) (kE_goto (tgt := 102) (kE_iload dX12_cores_96) dX12_cores_98 (by decide)) (kE_iload_3 dX12_cores_101)) (kSet_istore_3 dX12_cores_102 (by decide))) (kSt_goto (tgt := 56) (kSt_inc dX12_cores_103 (by decide)) dX12_cores_106 (by decide)))))
  (kSt_seq (p1 := 130) (kSt_let (kE_if (kCd_C (kE_iald (kE_get (kE_aload_0 dX12_cores_109) lf_RX12_111 dX12_cores_110) (kE_iload_3 dX12_cores_113) dX12_cores_114) (kE_iload_1 dX12_cores_115) (kJf_4 (tgt := 128) dX12_cores_116 (by decide))) (kE_goto (tgt := 129) (kE_iald (kE_get (kE_aload_0 dX12_cores_119) lf_RX12_111 dX12_cores_120) (kE_iload_3 dX12_cores_123) dX12_cores_124) dX12_cores_125 (by decide)) (kE_iload_1 dX12_cores_128)) (kSet_istore_1 dX12_cores_129 (by decide)))
  (kSt_seq (p1 := 137) (kSt_iast (kE_get (kE_aload_0 dX12_cores_130) lf_RX12_108 dX12_cores_131) (kE_iload_3 dX12_cores_134) (kE_iload_1 dX12_cores_135) dX12_cores_136)
  (kSt_seq (p1 := 144) (kSt_zast (kE_get (kE_aload_0 dX12_cores_137) lf_RX12_105 dX12_cores_138) (kE_iload_3 dX12_cores_141) (kE_ic_1 dX12_cores_142) dX12_cores_143)
  (kSt_trunc (kSt_seq (kSt_let (kE_ic_0 dX12_cores_144) (kSet_istore dX12_cores_145 (by decide))) (kSt_for (pu := 187) (pt := 156) (kCd_C (kE_iload dX12_cores_147) (kE_get (kE_aload_0 dX12_cores_149) lf_RX12_140 dX12_cores_150) (kJf_2 (tgt := 193) dX12_cores_153 (by decide))) (kSt_iastOp (kE_get (kE_aload_0 dX12_cores_156) lf_RX12_111 dX12_cores_157) (kE_iload dX12_cores_160) dX12_cores_162 dX12_cores_163 (kE_if (kCd_Z (kE_zald (kE_get (kE_aload_0 dX12_cores_164) lf_RX12_93 dX12_cores_165) (kE_bin (kE_bin (kE_sipush dX12_cores_168 (by rfl) ⟨by decide, by decide⟩) (kE_iload_3 dX12_cores_171) (kOp_mul dX12_cores_172)) (kE_iload dX12_cores_173) (kOp_add dX12_cores_175)) dX12_cores_176) (kZf_1 (tgt := 184) dX12_cores_177 (by decide))) (kE_goto (tgt := 185) (kE_ic_1 dX12_cores_180) dX12_cores_181 (by decide)) (kE_ic_0 dX12_cores_184)) (kOp_sub dX12_cores_185) dX12_cores_186) (kSt_goto (tgt := 147) (kSt_inc dX12_cores_187 (by decide)) dX12_cores_190 (by decide))))))))))) (kSt_goto (tgt := 43) (kSt_inc dX12_cores_193 (by decide)) dX12_cores_196 (by decide)))))))) (kSt_retV dX12_cores_199))
noncomputable def F_Md_cores : kFn := kF 1 kN s_Md_cores
theorem c_Md_cores : kCon yX12_cores cX12_cores 5 none { frames := 1, cells := 0, slots := 0, locals := 23 } F_Md_cores := kCon_of kEnds_V (by decide +kernel) (by decide) ⟨0, 0, 0, b_Md_cores⟩
noncomputable def s_Md_weigh : kSx :=
  (sSeq (sPut 12 22 (eR 0) (eK (0)))
  (sSeq (sIf (cNot (cZ 1 (eCall 12 F_Md_isNode (eSnoc (eSnoc eNil (eR 0)) (eI 1))))) (sRet 0 (eCall 12 F_Md_fail (eSnoc (eSnoc eNil (eR 0)) (eK (1))))) sSkip)
  (sSeq (sCall 12 F_Md_keepSet (eSnoc eNil (eR 0)))
  (sSeq (sAst 0 (eGet 12 2 (eR 0)) (eI 1) (eI 2))
  (sRet 0 (eCall 12 F_Md_differ (eSnoc eNil (eR 0))))))))
abbrev M_Md_weigh : kM := (cX12_weigh, yX12_weigh.cls, 3, { frames := 3, cells := 0, slots := 0, locals := 68 }, (some .int))
set_option maxRecDepth 20000 in
theorem b_Md_weigh : kSt M_Md_weigh 0 0 0 0 s_Md_weigh :=
  (kSt_seq (p1 := 5) (kSt_put (kE_aload_0 dX12_weigh_0) (kE_ic_0 dX12_weigh_1) lp_RX12_136 dX12_weigh_2)
  (kSt_seq (p1 := 19) (kSt_if (kCd_not (kCd_Z (kE_call (kEs_snoc (kEs_snoc kEs_nil (kE_aload_0 dX12_weigh_5)) (kE_iload_1 dX12_weigh_6)) dX12_weigh_7 c_Md_isNode mv_Md_isNode lm_RX12_176 ⟨rfl, rfl, by decide, by decide⟩ (by decide)) (kZt_1 (tgt := 19) dX12_weigh_10 (by decide)))) (kSt_ret (tag := 0) (kE_call (kEs_snoc (kEs_snoc kEs_nil (kE_aload_0 dX12_weigh_13)) (kE_ic_1 dX12_weigh_14)) dX12_weigh_15 c_Md_fail mv_Md_fail lm_RX12_164 ⟨rfl, rfl, by decide, by decide⟩ (by decide)) ⟨fun _ => dX12_weigh_18, fun q => (by cases q), fun q => (by cases q)⟩) kSt_skip)
  (kSt_seq (p1 := 23) (kSt_call (kEs_snoc kEs_nil (kE_aload_0 dX12_weigh_19)) dX12_weigh_20 c_Md_keepSet mv_Md_keepSet lm_RX12_184 ⟨rfl, rfl, by decide, by decide⟩)
  (kSt_seq (p1 := 30) (kSt_iast (kE_get (kE_aload_0 dX12_weigh_23) lf_RX12_7 dX12_weigh_24) (kE_iload_1 dX12_weigh_27) (kE_iload_2 dX12_weigh_28) dX12_weigh_29)
  (kSt_ret (tag := 0) (kE_call (kEs_snoc kEs_nil (kE_aload_0 dX12_weigh_30)) dX12_weigh_31 c_Md_differ mv_Md_differ lm_RX12_191 ⟨rfl, rfl, by decide, by decide⟩ (by decide)) ⟨fun _ => dX12_weigh_34, fun q => (by cases q), fun q => (by cases q)⟩)))))
noncomputable def F_Md_weigh : kFn := kF 3 kI s_Md_weigh
theorem c_Md_weigh : kCon yX12_weigh cX12_weigh 3 (some .int) { frames := 3, cells := 0, slots := 0, locals := 68 } F_Md_weigh := kCon_of kEnds_I (by decide +kernel) (by decide) ⟨0, 0, 0, b_Md_weigh⟩
noncomputable def s_Md_joined : kSx :=
  (sSeq (sPut 12 22 (eR 0) (eK (0)))
  (sSeq (sIf (cOr (cNot (cZ 1 (eCall 12 F_Md_isNode (eSnoc (eSnoc eNil (eR 0)) (eI 1))))) (cNot (cZ 1 (eCall 12 F_Md_isNode (eSnoc (eSnoc eNil (eR 0)) (eI 2)))))) (sRet 0 (eIf (cZ 4 (eCall 12 F_Md_fail (eSnoc (eSnoc eNil (eR 0)) (eK (1))))) (eK (1)) (eK (0)))) sSkip)
  (sSeq (sCall 12 F_Md_walk (eSnoc (eSnoc (eSnoc (eSnoc (eSnoc eNil (eR 0)) (eI 1)) (eK (1))) (eK (0))) (eK (-1))))
  (sRet 0 (eAld 1 (eGet 12 23 (eR 0)) (eI 2))))))
abbrev M_Md_joined : kM := (cX12_joined, yX12_joined.cls, 3, { frames := 1, cells := 0, slots := 0, locals := 28 }, (some .boolean))
set_option maxRecDepth 20000 in
theorem b_Md_joined : kSt M_Md_joined 0 0 0 0 s_Md_joined :=
  (kSt_seq (p1 := 5) (kSt_put (kE_aload_0 dX12_joined_0) (kE_ic_0 dX12_joined_1) lp_RX12_136 dX12_joined_2)
  (kSt_seq (p1 := 35) (kSt_if (kCd_or (kCd_not (kCd_Z (kE_call (kEs_snoc (kEs_snoc kEs_nil (kE_aload_0 dX12_joined_5)) (kE_iload_1 dX12_joined_6)) dX12_joined_7 c_Md_isNode mv_Md_isNode lm_RX12_176 ⟨rfl, rfl, by decide, by decide⟩ (by decide)) (kZf_1 (tgt := 21) dX12_joined_10 (by decide)))) (kCd_not (kCd_Z (kE_call (kEs_snoc (kEs_snoc kEs_nil (kE_aload_0 dX12_joined_13)) (kE_iload_2 dX12_joined_14)) dX12_joined_15 c_Md_isNode mv_Md_isNode lm_RX12_176 ⟨rfl, rfl, by decide, by decide⟩ (by decide)) (kZt_1 (tgt := 35) dX12_joined_18 (by decide))))) (kSt_ret (tag := 0) (kE_if (kCd_Z (kE_call (kEs_snoc (kEs_snoc kEs_nil (kE_aload_0 dX12_joined_21)) (kE_ic_1 dX12_joined_22)) dX12_joined_23 c_Md_fail mv_Md_fail lm_RX12_164 ⟨rfl, rfl, by decide, by decide⟩ (by decide)) (kZf_4 (tgt := 33) dX12_joined_26 (by decide))) (kE_goto (tgt := 34) (kE_ic_1 dX12_joined_29) dX12_joined_30 (by decide)) (kE_ic_0 dX12_joined_33)) ⟨fun _ => dX12_joined_34, fun q => (by cases q), fun q => (by cases q)⟩) kSt_skip)
  (kSt_seq (p1 := 43) (kSt_call (kEs_snoc (kEs_snoc (kEs_snoc (kEs_snoc (kEs_snoc kEs_nil (kE_aload_0 dX12_joined_35)) (kE_iload_1 dX12_joined_36)) (kE_ic_1 dX12_joined_37)) (kE_ic_0 dX12_joined_38)) (kE_ic_m1 dX12_joined_39)) dX12_joined_40 c_Md_walk mv_Md_walk lm_RX12_152 ⟨rfl, rfl, by decide, by decide⟩)
  (kSt_ret (tag := 0) (kE_zald (kE_get (kE_aload_0 dX12_joined_43) lf_RX12_56 dX12_joined_44) (kE_iload_2 dX12_joined_47) dX12_joined_48) ⟨fun _ => dX12_joined_49, fun q => (by cases q), fun q => (by cases q)⟩))))
noncomputable def F_Md_joined : kFn := kF 3 kZ s_Md_joined
theorem c_Md_joined : kCon yX12_joined cX12_joined 3 (some .boolean) { frames := 1, cells := 0, slots := 0, locals := 28 } F_Md_joined := kCon_of kEnds_Z (by decide +kernel) (by decide) ⟨0, 0, 0, b_Md_joined⟩
noncomputable def s_Md_other : kSx :=
  (sRet 0 (eIf (cZ 0 (eBin kRem (eI 1) (eK (2)))) (eAld 0 (eGet 12 4 (eR 0)) (eBin kDiv (eI 1) (eK (2)))) (eAld 0 (eGet 12 5 (eR 0)) (eBin kDiv (eI 1) (eK (2))))))
abbrev M_Md_other : kM := (cX12_other, yX12_other.cls, 2, { frames := 0, cells := 0, slots := 0, locals := 0 }, (some .int))
set_option maxRecDepth 20000 in
theorem b_Md_other : kSt M_Md_other 0 0 0 0 s_Md_other :=
  (kSt_ret (tag := 0) (kE_if (kCd_Z (kE_bin (kE_iload_1 dX12_other_0) (kE_ic_2 dX12_other_1) (kOp_rem dX12_other_2)) (kZf_0 (tgt := 17) dX12_other_3 (by decide))) (kE_goto (tgt := 25) (kE_iald (kE_get (kE_aload_0 dX12_other_6) lf_RX12_13 dX12_other_7) (kE_bin (kE_iload_1 dX12_other_10) (kE_ic_2 dX12_other_11) (kOp_div dX12_other_12)) dX12_other_13) dX12_other_14 (by decide)) (kE_iald (kE_get (kE_aload_0 dX12_other_17) lf_RX12_16 dX12_other_18) (kE_bin (kE_iload_1 dX12_other_21) (kE_ic_2 dX12_other_22) (kOp_div dX12_other_23)) dX12_other_24)) ⟨fun _ => dX12_other_25, fun q => (by cases q), fun q => (by cases q)⟩)
noncomputable def F_Md_other : kFn := kF 2 kI s_Md_other
theorem c_Md_other : kCon yX12_other cX12_other 2 (some .int) { frames := 0, cells := 0, slots := 0, locals := 0 } F_Md_other := kCon_of kEnds_I (by decide +kernel) (by decide) ⟨0, 0, 0, b_Md_other⟩
noncomputable def l_Md_two_1 : kSx := sFor 6 (cAnd (cZ 1 (eI 3)) (cC 1 (eI 5) (eI 1)))
  (sSeq (sAst 0 (eGet 12 43 (eR 0)) (eI 4) (eBin kDiv (eAld 0 (eGet 12 25 (eR 0)) (eI 5)) (eK (2))))
  (sInc 4 (1)))
  (sLet 0 5 (eCall 12 F_Md_other (eSnoc (eSnoc eNil (eR 0)) (eAld 0 (eGet 12 25 (eR 0)) (eI 5)))))
noncomputable def l_Md_two_2 : kSx := sFor 6 (cAnd (cC 2 (eI 5) (eI 4)) (cZ 1 (eI 3)))
  (sSeq (sCall 12 F_Md_walk (eSnoc (eSnoc (eSnoc (eSnoc (eSnoc eNil (eR 0)) (eI 1)) (eK (1))) (eK (0))) (eAld 0 (eGet 12 43 (eR 0)) (eI 5))))
  (sLet 0 3 (eAld 1 (eGet 12 23 (eR 0)) (eI 2))))
  (sInc 5 (1))
noncomputable def s_Md_two : kSx :=
  (sSeq (sPut 12 22 (eR 0) (eK (0)))
  (sSeq (sIf (cOr (cNot (cZ 1 (eCall 12 F_Md_isNode (eSnoc (eSnoc eNil (eR 0)) (eI 1))))) (cNot (cZ 1 (eCall 12 F_Md_isNode (eSnoc (eSnoc eNil (eR 0)) (eI 2)))))) (sRet 0 (eIf (cZ 4 (eCall 12 F_Md_fail (eSnoc (eSnoc eNil (eR 0)) (eK (1))))) (eK (1)) (eK (0)))) sSkip)
  (sSeq (sIf (cC 0 (eI 1) (eI 2)) (sRet 0 (eK (1))) sSkip)
  (sSeq (sCall 12 F_Md_walk (eSnoc (eSnoc (eSnoc (eSnoc (eSnoc eNil (eR 0)) (eI 1)) (eK (1))) (eK (0))) (eK (-1))))
  (sSeq (sLet 0 3 (eAld 1 (eGet 12 23 (eR 0)) (eI 2)))
  (sSeq (sLet 0 4 (eK (0)))
  (sSeq (sTrunc 5 (sSeq (sLet 0 5 (eI 2)) l_Md_two_1))
  (sSeq (sTrunc 5 (sSeq (sLet 0 5 (eK (0))) l_Md_two_2))
  (sRet 0 (eI 3))))))))))
abbrev M_Md_two : kM := (cX12_two, yX12_two.cls, 6, { frames := 1, cells := 0, slots := 0, locals := 28 }, (some .boolean))
set_option maxRecDepth 20000 in
theorem b_Md_two : kSt M_Md_two 0 0 0 0 s_Md_two :=
  (kSt_seq (p1 := 5) (kSt_put (kE_aload_0 dX12_two_0) (kE_ic_0 dX12_two_1) lp_RX12_136 dX12_two_2)
  (kSt_seq (p1 := 35) (kSt_if (kCd_or (kCd_not (kCd_Z (kE_call (kEs_snoc (kEs_snoc kEs_nil (kE_aload_0 dX12_two_5)) (kE_iload_1 dX12_two_6)) dX12_two_7 c_Md_isNode mv_Md_isNode lm_RX12_176 ⟨rfl, rfl, by decide, by decide⟩ (by decide)) (kZf_1 (tgt := 21) dX12_two_10 (by decide)))) (kCd_not (kCd_Z (kE_call (kEs_snoc (kEs_snoc kEs_nil (kE_aload_0 dX12_two_13)) (kE_iload_2 dX12_two_14)) dX12_two_15 c_Md_isNode mv_Md_isNode lm_RX12_176 ⟨rfl, rfl, by decide, by decide⟩ (by decide)) (kZt_1 (tgt := 35) dX12_two_18 (by decide))))) (kSt_ret (tag := 0) (kE_if (kCd_Z (kE_call (kEs_snoc (kEs_snoc kEs_nil (kE_aload_0 dX12_two_21)) (kE_ic_1 dX12_two_22)) dX12_two_23 c_Md_fail mv_Md_fail lm_RX12_164 ⟨rfl, rfl, by decide, by decide⟩ (by decide)) (kZf_4 (tgt := 33) dX12_two_26 (by decide))) (kE_goto (tgt := 34) (kE_ic_1 dX12_two_29) dX12_two_30 (by decide)) (kE_ic_0 dX12_two_33)) ⟨fun _ => dX12_two_34, fun q => (by cases q), fun q => (by cases q)⟩) kSt_skip)
  (kSt_seq (p1 := 42) (kSt_if (kCd_C (kE_iload_1 dX12_two_35) (kE_iload_2 dX12_two_36) (kJf_0 (tgt := 42) dX12_two_37 (by decide))) (kSt_ret (tag := 0) (kE_ic_1 dX12_two_40) ⟨fun _ => dX12_two_41, fun q => (by cases q), fun q => (by cases q)⟩) kSt_skip)
  (kSt_seq (p1 := 50) (kSt_call (kEs_snoc (kEs_snoc (kEs_snoc (kEs_snoc (kEs_snoc kEs_nil (kE_aload_0 dX12_two_42)) (kE_iload_1 dX12_two_43)) (kE_ic_1 dX12_two_44)) (kE_ic_0 dX12_two_45)) (kE_ic_m1 dX12_two_46)) dX12_two_47 c_Md_walk mv_Md_walk lm_RX12_152 ⟨rfl, rfl, by decide, by decide⟩)
  (kSt_seq (p1 := 57) (kSt_let (kE_zald (kE_get (kE_aload_0 dX12_two_50) lf_RX12_56 dX12_two_51) (kE_iload_2 dX12_two_54) dX12_two_55) (kSet_istore_3 dX12_two_56 (by decide)))
  (kSt_seq (p1 := 60) (kSt_let (kE_ic_0 dX12_two_57) (kSet_istore dX12_two_58 (by decide)))
  (kSt_seq (p1 := 108) (kSt_trunc (kSt_seq (kSt_let (kE_iload_2 dX12_two_60) (kSet_istore dX12_two_61 (by decide))) (kSt_for (pu := 92) (pt := 73) (kCd_and (kCd_Z (kE_iload_3 dX12_two_63) (kZf_1 (tgt := 108) dX12_two_64 (by decide))) (kCd_C (kE_iload dX12_two_67) (kE_iload_1 dX12_two_69) (kJf_1 (tgt := 108) dX12_two_70 (by decide)))) (kSt_seq (p1 := 89) (kSt_iast (kE_get (kE_aload_0 dX12_two_73) lf_RX12_114 dX12_two_74) (kE_iload dX12_two_77) (kE_bin (kE_iald (kE_get (kE_aload_0 dX12_two_79) lf_RX12_62 dX12_two_80) (kE_iload dX12_two_83) dX12_two_85) (kE_ic_2 dX12_two_86) (kOp_div dX12_two_87)) dX12_two_88)
  (kSt_inc dX12_two_89 (by decide))) (kSt_goto (tgt := 63) (kSt_let (kE_call (kEs_snoc (kEs_snoc kEs_nil (kE_aload_0 dX12_two_92)) (kE_iald (kE_get (kE_aload_0 dX12_two_93) lf_RX12_62 dX12_two_94) (kE_iload dX12_two_97) dX12_two_99)) dX12_two_100 c_Md_other mv_Md_other lm_RX12_215 ⟨rfl, rfl, by decide, by decide⟩ (by decide)) (kSet_istore dX12_two_103 (by decide))) dX12_two_105 (by decide)))))
  (kSt_seq (p1 := 149) (kSt_trunc (kSt_seq (kSt_let (kE_ic_0 dX12_two_108) (kSet_istore dX12_two_109 (by decide))) (kSt_for (pu := 143) (pt := 122) (kCd_and (kCd_C (kE_iload dX12_two_111) (kE_iload dX12_two_113) (kJf_2 (tgt := 149) dX12_two_115 (by decide))) (kCd_Z (kE_iload_3 dX12_two_118) (kZf_1 (tgt := 149) dX12_two_119 (by decide)))) (kSt_seq (p1 := 136) (kSt_call (kEs_snoc (kEs_snoc (kEs_snoc (kEs_snoc (kEs_snoc kEs_nil (kE_aload_0 dX12_two_122)) (kE_iload_1 dX12_two_123)) (kE_ic_1 dX12_two_124)) (kE_ic_0 dX12_two_125)) (kE_iald (kE_get (kE_aload_0 dX12_two_126) lf_RX12_114 dX12_two_127) (kE_iload dX12_two_130) dX12_two_132)) dX12_two_133 c_Md_walk mv_Md_walk lm_RX12_152 ⟨rfl, rfl, by decide, by decide⟩)
  (kSt_let (kE_zald (kE_get (kE_aload_0 dX12_two_136) lf_RX12_56 dX12_two_137) (kE_iload_2 dX12_two_140) dX12_two_141) (kSet_istore_3 dX12_two_142 (by decide)))) (kSt_goto (tgt := 111) (kSt_inc dX12_two_143 (by decide)) dX12_two_146 (by decide)))))
  (kSt_ret (tag := 0) (kE_iload_3 dX12_two_149) ⟨fun _ => dX12_two_150, fun q => (by cases q), fun q => (by cases q)⟩)))))))))
noncomputable def F_Md_two : kFn := kF 3 kZ s_Md_two
theorem c_Md_two : kCon yX12_two cX12_two 6 (some .boolean) { frames := 1, cells := 0, slots := 0, locals := 28 } F_Md_two := kCon_of kEnds_Z (by decide +kernel) (by decide) ⟨0, 0, 0, b_Md_two⟩
noncomputable def s_Md_isBridge : kSx :=
  (sSeq (sIf (cC 0 (eAld 0 (eGet 12 4 (eR 0)) (eI 1)) (eAld 0 (eGet 12 5 (eR 0)) (eI 1))) (sRet 0 (eK (0))) sSkip)
  (sSeq (sCall 12 F_Md_walk (eSnoc (eSnoc (eSnoc (eSnoc (eSnoc eNil (eR 0)) (eAld 0 (eGet 12 4 (eR 0)) (eI 1))) (eK (1))) (eK (0))) (eI 1)))
  (sRet 0 (eIf (cNot (cZ 1 (eAld 1 (eGet 12 23 (eR 0)) (eAld 0 (eGet 12 5 (eR 0)) (eI 1))))) (eK (1)) (eK (0))))))
abbrev M_Md_isBridge : kM := (cX12_isBridge, yX12_isBridge.cls, 2, { frames := 1, cells := 0, slots := 0, locals := 28 }, (some .boolean))
set_option maxRecDepth 20000 in
theorem b_Md_isBridge : kSt M_Md_isBridge 0 0 0 0 s_Md_isBridge :=
  (kSt_seq (p1 := 17) (kSt_if (kCd_C (kE_iald (kE_get (kE_aload_0 dX12_isBridge_0) lf_RX12_13 dX12_isBridge_1) (kE_iload_1 dX12_isBridge_4) dX12_isBridge_5) (kE_iald (kE_get (kE_aload_0 dX12_isBridge_6) lf_RX12_16 dX12_isBridge_7) (kE_iload_1 dX12_isBridge_10) dX12_isBridge_11) (kJf_0 (tgt := 17) dX12_isBridge_12 (by decide))) (kSt_ret (tag := 0) (kE_ic_0 dX12_isBridge_15) ⟨fun _ => dX12_isBridge_16, fun q => (by cases q), fun q => (by cases q)⟩) kSt_skip)
  (kSt_seq (p1 := 30) (kSt_call (kEs_snoc (kEs_snoc (kEs_snoc (kEs_snoc (kEs_snoc kEs_nil (kE_aload_0 dX12_isBridge_17)) (kE_iald (kE_get (kE_aload_0 dX12_isBridge_18) lf_RX12_13 dX12_isBridge_19) (kE_iload_1 dX12_isBridge_22) dX12_isBridge_23)) (kE_ic_1 dX12_isBridge_24)) (kE_ic_0 dX12_isBridge_25)) (kE_iload_1 dX12_isBridge_26)) dX12_isBridge_27 c_Md_walk mv_Md_walk lm_RX12_152 ⟨rfl, rfl, by decide, by decide⟩)
  (kSt_ret (tag := 0) (kE_if (kCd_not (kCd_Z (kE_zald (kE_get (kE_aload_0 dX12_isBridge_30) lf_RX12_56 dX12_isBridge_31) (kE_iald (kE_get (kE_aload_0 dX12_isBridge_34) lf_RX12_16 dX12_isBridge_35) (kE_iload_1 dX12_isBridge_38) dX12_isBridge_39) dX12_isBridge_40) (kZt_1 (tgt := 48) dX12_isBridge_41 (by decide)))) (kE_goto (tgt := 49) (kE_ic_1 dX12_isBridge_44) dX12_isBridge_45 (by decide)) (kE_ic_0 dX12_isBridge_48)) ⟨fun _ => dX12_isBridge_49, fun q => (by cases q), fun q => (by cases q)⟩)))
noncomputable def F_Md_isBridge : kFn := kF 2 kZ s_Md_isBridge
theorem c_Md_isBridge : kCon yX12_isBridge cX12_isBridge 2 (some .boolean) { frames := 1, cells := 0, slots := 0, locals := 28 } F_Md_isBridge := kCon_of kEnds_Z (by decide +kernel) (by decide) ⟨0, 0, 0, b_Md_isBridge⟩
noncomputable def s_Md_isOdd : kSx :=
  (sSeq (sIf (cZ 1 (eAld 1 (eGet 12 7 (eR 0)) (eI 1))) (sRet 0 (eK (0))) sSkip)
  (sSeq (sCall 12 F_Md_walk (eSnoc (eSnoc (eSnoc (eSnoc (eSnoc eNil (eR 0)) (eAld 0 (eGet 12 4 (eR 0)) (eI 1))) (eK (0))) (eK (0))) (eK (-1))))
  (sRet 0 (eIf (cZ 0 (eBin kRem (eAld 0 (eGet 12 26 (eR 0)) (eAld 0 (eGet 12 5 (eR 0)) (eI 1))) (eK (2)))) (eK (1)) (eK (0))))))
abbrev M_Md_isOdd : kM := (cX12_isOdd, yX12_isOdd.cls, 2, { frames := 1, cells := 0, slots := 0, locals := 28 }, (some .boolean))
set_option maxRecDepth 20000 in
theorem b_Md_isOdd : kSt M_Md_isOdd 0 0 0 0 s_Md_isOdd :=
  (kSt_seq (p1 := 11) (kSt_if (kCd_Z (kE_zald (kE_get (kE_aload_0 dX12_isOdd_0) lf_RX12_22 dX12_isOdd_1) (kE_iload_1 dX12_isOdd_4) dX12_isOdd_5) (kZf_1 (tgt := 11) dX12_isOdd_6 (by decide))) (kSt_ret (tag := 0) (kE_ic_0 dX12_isOdd_9) ⟨fun _ => dX12_isOdd_10, fun q => (by cases q), fun q => (by cases q)⟩) kSt_skip)
  (kSt_seq (p1 := 24) (kSt_call (kEs_snoc (kEs_snoc (kEs_snoc (kEs_snoc (kEs_snoc kEs_nil (kE_aload_0 dX12_isOdd_11)) (kE_iald (kE_get (kE_aload_0 dX12_isOdd_12) lf_RX12_13 dX12_isOdd_13) (kE_iload_1 dX12_isOdd_16) dX12_isOdd_17)) (kE_ic_0 dX12_isOdd_18)) (kE_ic_0 dX12_isOdd_19)) (kE_ic_m1 dX12_isOdd_20)) dX12_isOdd_21 c_Md_walk mv_Md_walk lm_RX12_152 ⟨rfl, rfl, by decide, by decide⟩)
  (kSt_ret (tag := 0) (kE_if (kCd_Z (kE_bin (kE_iald (kE_get (kE_aload_0 dX12_isOdd_24) lf_RX12_65 dX12_isOdd_25) (kE_iald (kE_get (kE_aload_0 dX12_isOdd_28) lf_RX12_16 dX12_isOdd_29) (kE_iload_1 dX12_isOdd_32) dX12_isOdd_33) dX12_isOdd_34) (kE_ic_2 dX12_isOdd_35) (kOp_rem dX12_isOdd_36)) (kZf_0 (tgt := 44) dX12_isOdd_37 (by decide))) (kE_goto (tgt := 45) (kE_ic_1 dX12_isOdd_40) dX12_isOdd_41 (by decide)) (kE_ic_0 dX12_isOdd_44)) ⟨fun _ => dX12_isOdd_45, fun q => (by cases q), fun q => (by cases q)⟩)))
noncomputable def F_Md_isOdd : kFn := kF 2 kZ s_Md_isOdd
theorem c_Md_isOdd : kCon yX12_isOdd cX12_isOdd 2 (some .boolean) { frames := 1, cells := 0, slots := 0, locals := 28 } F_Md_isOdd := kCon_of kEnds_Z (by decide +kernel) (by decide) ⟨0, 0, 0, b_Md_isOdd⟩
noncomputable def l_Md_oddOf_1 : kSx := sFor 3 (cC 2 (eI 2) (eGet 12 10 (eR 0)))
  (sTrunc 3 (sSeq (sLet 0 3 (eAld 0 (eGet 12 11 (eR 0)) (eI 2)))
  (sIf (cAnd (cAnd (cNot (cZ 1 (eAld 1 (eGet 12 7 (eR 0)) (eI 3)))) (cZ 1 (eAld 1 (eGet 12 23 (eR 0)) (eAld 0 (eGet 12 4 (eR 0)) (eI 3))))) (cC 0 (eBin kRem (eAld 0 (eGet 12 26 (eR 0)) (eAld 0 (eGet 12 4 (eR 0)) (eI 3))) (eK (2))) (eBin kRem (eAld 0 (eGet 12 26 (eR 0)) (eAld 0 (eGet 12 5 (eR 0)) (eI 3))) (eK (2))))) (sRet 0 (eI 3)) sSkip)))
  (sInc 2 (1))
noncomputable def s_Md_oddOf : kSx :=
  (sSeq (sCall 12 F_Md_walk (eSnoc (eSnoc (eSnoc (eSnoc (eSnoc eNil (eR 0)) (eI 1)) (eK (0))) (eK (0))) (eK (-1))))
  (sSeq (sTrunc 2 (sSeq (sLet 0 2 (eK (0))) l_Md_oddOf_1))
  (sRet 0 (eK (-1)))))
abbrev M_Md_oddOf : kM := (cX12_oddOf, yX12_oddOf.cls, 4, { frames := 1, cells := 0, slots := 0, locals := 28 }, (some .int))
set_option maxRecDepth 20000 in
theorem b_Md_oddOf : kSt M_Md_oddOf 0 0 0 0 s_Md_oddOf :=
  (kSt_seq (p1 := 8) (kSt_call (kEs_snoc (kEs_snoc (kEs_snoc (kEs_snoc (kEs_snoc kEs_nil (kE_aload_0 dX12_oddOf_0)) (kE_iload_1 dX12_oddOf_1)) (kE_ic_0 dX12_oddOf_2)) (kE_ic_0 dX12_oddOf_3)) (kE_ic_m1 dX12_oddOf_4)) dX12_oddOf_5 c_Md_walk mv_Md_walk lm_RX12_152 ⟨rfl, rfl, by decide, by decide⟩)
  (kSt_seq (p1 := 85) (kSt_trunc (kSt_seq (kSt_let (kE_ic_0 dX12_oddOf_8) (kSet_istore_2 dX12_oddOf_9 (by decide))) (kSt_for (pu := 79) (pt := 18) (kCd_C (kE_iload_2 dX12_oddOf_10) (kE_get (kE_aload_0 dX12_oddOf_11) lf_RX12_146 dX12_oddOf_12) (kJf_2 (tgt := 85) dX12_oddOf_15 (by decide))) (kSt_trunc (kSt_seq (p1 := 25) (kSt_let (kE_iald (kE_get (kE_aload_0 dX12_oddOf_18) lf_RX12_32 dX12_oddOf_19) (kE_iload_2 dX12_oddOf_22) dX12_oddOf_23) (kSet_istore_3 dX12_oddOf_24 (by decide)))
  (kSt_if (kCd_and (kCd_and (kCd_not (kCd_Z (kE_zald (kE_get (kE_aload_0 dX12_oddOf_25) lf_RX12_22 dX12_oddOf_26) (kE_iload_3 dX12_oddOf_29) dX12_oddOf_30) (kZt_1 (tgt := 79) dX12_oddOf_31 (by decide)))) (kCd_Z (kE_zald (kE_get (kE_aload_0 dX12_oddOf_34) lf_RX12_56 dX12_oddOf_35) (kE_iald (kE_get (kE_aload_0 dX12_oddOf_38) lf_RX12_13 dX12_oddOf_39) (kE_iload_3 dX12_oddOf_42) dX12_oddOf_43) dX12_oddOf_44) (kZf_1 (tgt := 79) dX12_oddOf_45 (by decide)))) (kCd_C (kE_bin (kE_iald (kE_get (kE_aload_0 dX12_oddOf_48) lf_RX12_65 dX12_oddOf_49) (kE_iald (kE_get (kE_aload_0 dX12_oddOf_52) lf_RX12_13 dX12_oddOf_53) (kE_iload_3 dX12_oddOf_56) dX12_oddOf_57) dX12_oddOf_58) (kE_ic_2 dX12_oddOf_59) (kOp_rem dX12_oddOf_60)) (kE_bin (kE_iald (kE_get (kE_aload_0 dX12_oddOf_61) lf_RX12_65 dX12_oddOf_62) (kE_iald (kE_get (kE_aload_0 dX12_oddOf_65) lf_RX12_16 dX12_oddOf_66) (kE_iload_3 dX12_oddOf_69) dX12_oddOf_70) dX12_oddOf_71) (kE_ic_2 dX12_oddOf_72) (kOp_rem dX12_oddOf_73)) (kJf_0 (tgt := 79) dX12_oddOf_74 (by decide)))) (kSt_ret (tag := 0) (kE_iload_3 dX12_oddOf_77) ⟨fun _ => dX12_oddOf_78, fun q => (by cases q), fun q => (by cases q)⟩) kSt_skip))) (kSt_goto (tgt := 10) (kSt_inc dX12_oddOf_79 (by decide)) dX12_oddOf_82 (by decide)))))
  (kSt_ret (tag := 0) (kE_ic_m1 dX12_oddOf_85) ⟨fun _ => dX12_oddOf_86, fun q => (by cases q), fun q => (by cases q)⟩)))
noncomputable def F_Md_oddOf : kFn := kF 2 kI s_Md_oddOf
theorem c_Md_oddOf : kCon yX12_oddOf cX12_oddOf 4 (some .int) { frames := 1, cells := 0, slots := 0, locals := 28 } F_Md_oddOf := kCon_of kEnds_I (by decide +kernel) (by decide) ⟨0, 0, 0, b_Md_oddOf⟩
noncomputable def l_Md_strongOf_1 : kSx := sFor 3 (cC 2 (eI 2) (eGet 12 1 (eR 0)))
  (sAst 1 (eGet 12 33 (eR 0)) (eI 2) (eAld 1 (eGet 12 23 (eR 0)) (eI 2)))
  (sInc 2 (1))
noncomputable def l_Md_strongOf_2 : kSx := sFor 3 (cC 2 (eI 2) (eGet 12 1 (eR 0)))
  (sIf (cAnd (cZ 1 (eAld 1 (eGet 12 33 (eR 0)) (eI 2))) (cZ 1 (eAld 1 (eGet 12 23 (eR 0)) (eI 2)))) (sRet 0 (eI 2)) sSkip)
  (sInc 2 (1))
noncomputable def s_Md_strongOf : kSx :=
  (sSeq (sCall 12 F_Md_walk (eSnoc (eSnoc (eSnoc (eSnoc (eSnoc eNil (eR 0)) (eI 1)) (eK (2))) (eK (0))) (eK (-1))))
  (sSeq (sTrunc 2 (sSeq (sLet 0 2 (eK (0))) l_Md_strongOf_1))
  (sSeq (sCall 12 F_Md_walk (eSnoc (eSnoc (eSnoc (eSnoc (eSnoc eNil (eR 0)) (eI 1)) (eK (3))) (eK (0))) (eK (-1))))
  (sSeq (sTrunc 2 (sSeq (sLet 0 2 (eK (0))) l_Md_strongOf_2))
  (sRet 0 (eK (-1)))))))
abbrev M_Md_strongOf : kM := (cX12_strongOf, yX12_strongOf.cls, 3, { frames := 1, cells := 0, slots := 0, locals := 28 }, (some .int))
set_option maxRecDepth 20000 in
theorem b_Md_strongOf : kSt M_Md_strongOf 0 0 0 0 s_Md_strongOf :=
  (kSt_seq (p1 := 8) (kSt_call (kEs_snoc (kEs_snoc (kEs_snoc (kEs_snoc (kEs_snoc kEs_nil (kE_aload_0 dX12_strongOf_0)) (kE_iload_1 dX12_strongOf_1)) (kE_ic_2 dX12_strongOf_2)) (kE_ic_0 dX12_strongOf_3)) (kE_ic_m1 dX12_strongOf_4)) dX12_strongOf_5 c_Md_walk mv_Md_walk lm_RX12_152 ⟨rfl, rfl, by decide, by decide⟩)
  (kSt_seq (p1 := 36) (kSt_trunc (kSt_seq (kSt_let (kE_ic_0 dX12_strongOf_8) (kSet_istore_2 dX12_strongOf_9 (by decide))) (kSt_for (pu := 30) (pt := 18) (kCd_C (kE_iload_2 dX12_strongOf_10) (kE_get (kE_aload_0 dX12_strongOf_11) lf_RX12_140 dX12_strongOf_12) (kJf_2 (tgt := 36) dX12_strongOf_15 (by decide))) (kSt_zast (kE_get (kE_aload_0 dX12_strongOf_18) lf_RX12_83 dX12_strongOf_19) (kE_iload_2 dX12_strongOf_22) (kE_zald (kE_get (kE_aload_0 dX12_strongOf_23) lf_RX12_56 dX12_strongOf_24) (kE_iload_2 dX12_strongOf_27) dX12_strongOf_28) dX12_strongOf_29) (kSt_goto (tgt := 10) (kSt_inc dX12_strongOf_30 (by decide)) dX12_strongOf_33 (by decide)))))
  (kSt_seq (p1 := 44) (kSt_call (kEs_snoc (kEs_snoc (kEs_snoc (kEs_snoc (kEs_snoc kEs_nil (kE_aload_0 dX12_strongOf_36)) (kE_iload_1 dX12_strongOf_37)) (kE_ic_3 dX12_strongOf_38)) (kE_ic_0 dX12_strongOf_39)) (kE_ic_m1 dX12_strongOf_40)) dX12_strongOf_41 c_Md_walk mv_Md_walk lm_RX12_152 ⟨rfl, rfl, by decide, by decide⟩)
  (kSt_seq (p1 := 80) (kSt_trunc (kSt_seq (kSt_let (kE_ic_0 dX12_strongOf_44) (kSet_istore_2 dX12_strongOf_45 (by decide))) (kSt_for (pu := 74) (pt := 54) (kCd_C (kE_iload_2 dX12_strongOf_46) (kE_get (kE_aload_0 dX12_strongOf_47) lf_RX12_140 dX12_strongOf_48) (kJf_2 (tgt := 80) dX12_strongOf_51 (by decide))) (kSt_if (kCd_and (kCd_Z (kE_zald (kE_get (kE_aload_0 dX12_strongOf_54) lf_RX12_83 dX12_strongOf_55) (kE_iload_2 dX12_strongOf_58) dX12_strongOf_59) (kZf_1 (tgt := 74) dX12_strongOf_60 (by decide))) (kCd_Z (kE_zald (kE_get (kE_aload_0 dX12_strongOf_63) lf_RX12_56 dX12_strongOf_64) (kE_iload_2 dX12_strongOf_67) dX12_strongOf_68) (kZf_1 (tgt := 74) dX12_strongOf_69 (by decide)))) (kSt_ret (tag := 0) (kE_iload_2 dX12_strongOf_72) ⟨fun _ => dX12_strongOf_73, fun q => (by cases q), fun q => (by cases q)⟩) kSt_skip) (kSt_goto (tgt := 46) (kSt_inc dX12_strongOf_74 (by decide)) dX12_strongOf_77 (by decide)))))
  (kSt_ret (tag := 0) (kE_ic_m1 dX12_strongOf_80) ⟨fun _ => dX12_strongOf_81, fun q => (by cases q), fun q => (by cases q)⟩)))))
noncomputable def F_Md_strongOf : kFn := kF 2 kI s_Md_strongOf
theorem c_Md_strongOf : kCon yX12_strongOf cX12_strongOf 3 (some .int) { frames := 1, cells := 0, slots := 0, locals := 28 } F_Md_strongOf := kCon_of kEnds_I (by decide +kernel) (by decide) ⟨0, 0, 0, b_Md_strongOf⟩
noncomputable def sw_Md_of (z : Int) : kSx := if z = 0 then (sRet 0 (eAld 0 (eGet 12 2 (eR 0)) (eI 1))) else
  if z = 1 then (sRet 0 (eCall 12 F_Md_partOf (eSnoc (eSnoc eNil (eR 0)) (eI 1)))) else
  if z = 2 then (sRet 0 (eCall 12 F_Md_strongOf (eSnoc (eSnoc eNil (eR 0)) (eI 1)))) else
  if z = 3 then (sRet 0 (eAld 0 (eGet 12 13 (eR 0)) (eI 1))) else
  if z = 4 then (sSeq (sCall 12 F_Md_cores (eSnoc eNil (eR 0)))
  (sRet 0 (eAld 0 (eGet 12 41 (eR 0)) (eI 1)))) else
  if z = 5 then (sSeq (sCall 12 F_Md_theSet (eSnoc eNil (eR 0)))
  (sRet 0 (eIf (cZ 1 (eAld 1 (eGet 12 38 (eR 0)) (eI 1))) (eK (1)) (eK (0))))) else
  if z = 6 then (sSeq (sCall 12 F_Md_neighbours (eSnoc eNil (eR 0)))
  (sRet 0 (eAld 0 (eGet 12 37 (eR 0)) (eI 1)))) else
  if z = 7 then (sTrunc 3 (sSeq (sLet 0 3 (eCall 12 F_Md_partOf (eSnoc (eSnoc eNil (eR 0)) (eI 1))))
  (sSeq (sCall 12 F_Md_walk (eSnoc (eSnoc (eSnoc (eSnoc (eSnoc eNil (eR 0)) (eI 1)) (eK (0))) (eK (0))) (eK (-1))))
  (sRet 0 (eAld 0 (eGet 12 26 (eR 0)) (eI 3)))))) else
  (sRet 0 (eIf (cC 0 (eCall 12 F_Md_oddOf (eSnoc (eSnoc eNil (eR 0)) (eI 1))) (eK (-1))) (eK (1)) (eK (0))))
noncomputable def s_Md_of : kSx :=
  (sSeq (sPut 12 22 (eR 0) (eK (0)))
  (sSeq (sIf (cNot (cZ 1 (eCall 12 F_Md_isNode (eSnoc (eSnoc eNil (eR 0)) (eI 1))))) (sRet 0 (eCall 12 F_Md_fail (eSnoc (eSnoc eNil (eR 0)) (eK (1))))) sSkip)
  (sSeq (sIf (cOr (cZ 2 (eI 2)) (cC 4 (eI 2) (eK (8)))) (sRet 0 (eCall 12 F_Md_fail (eSnoc (eSnoc eNil (eR 0)) (eK (2))))) sSkip)
  (sSwitch (eI 2) sw_Md_of))))
abbrev M_Md_of : kM := (cX12_of, yX12_of.cls, 4, { frames := 2, cells := 0, slots := 0, locals := 51 }, (some .int))
set_option maxRecDepth 20000 in
theorem b_Md_of : kSt M_Md_of 0 0 0 0 s_Md_of :=
  (kSt_seq (p1 := 5) (kSt_put (kE_aload_0 dX12_of_0) (kE_ic_0 dX12_of_1) lp_RX12_136 dX12_of_2)
  (kSt_seq (p1 := 19) (kSt_if (kCd_not (kCd_Z (kE_call (kEs_snoc (kEs_snoc kEs_nil (kE_aload_0 dX12_of_5)) (kE_iload_1 dX12_of_6)) dX12_of_7 c_Md_isNode mv_Md_isNode lm_RX12_176 ⟨rfl, rfl, by decide, by decide⟩ (by decide)) (kZt_1 (tgt := 19) dX12_of_10 (by decide)))) (kSt_ret (tag := 0) (kE_call (kEs_snoc (kEs_snoc kEs_nil (kE_aload_0 dX12_of_13)) (kE_ic_1 dX12_of_14)) dX12_of_15 c_Md_fail mv_Md_fail lm_RX12_164 ⟨rfl, rfl, by decide, by decide⟩ (by decide)) ⟨fun _ => dX12_of_18, fun q => (by cases q), fun q => (by cases q)⟩) kSt_skip)
  (kSt_seq (p1 := 35) (kSt_if (kCd_or (kCd_Z (kE_iload_2 dX12_of_19) (kZt_2 (tgt := 29) dX12_of_20 (by decide))) (kCd_C (kE_iload_2 dX12_of_23) (kE_bipush dX12_of_24 (by rfl) ⟨by decide, by decide⟩) (kJf_4 (tgt := 35) dX12_of_26 (by decide)))) (kSt_ret (tag := 0) (kE_call (kEs_snoc (kEs_snoc kEs_nil (kE_aload_0 dX12_of_29)) (kE_ic_2 dX12_of_30)) dX12_of_31 c_Md_fail mv_Md_fail lm_RX12_164 ⟨rfl, rfl, by decide, by decide⟩ (by decide)) ⟨fun _ => dX12_of_34, fun q => (by cases q), fun q => (by cases q)⟩) kSt_skip)
  (kSt_tsw (f := sw_Md_of) (kE_iload_2 dX12_of_35) dX12_of_36 (fun z => by
    unfold sw_Md_of
    by_cases h0 : z = 0
    · subst h0; exact ⟨84, Or.inr ⟨by decide, by decide, 48, rfl, by decide⟩, by
      first | (simp only [reduceIte, Int.reduceEq]; exact (kSt_ret (tag := 0) (kE_iald (kE_get (kE_aload_0 dX12_of_84) lf_RX12_7 dX12_of_85) (kE_iload_1 dX12_of_88) dX12_of_89) ⟨fun _ => dX12_of_90, fun q => (by cases q), fun q => (by cases q)⟩)) | (simp; exact (kSt_ret (tag := 0) (kE_iald (kE_get (kE_aload_0 dX12_of_84) lf_RX12_7 dX12_of_85) (kE_iload_1 dX12_of_88) dX12_of_89) ⟨fun _ => dX12_of_90, fun q => (by cases q), fun q => (by cases q)⟩))⟩
    by_cases h1 : z = 1
    · subst h1; exact ⟨91, Or.inr ⟨by decide, by decide, 55, rfl, by decide⟩, by
      first | (simp only [reduceIte, Int.reduceEq]; exact (kSt_ret (tag := 0) (kE_call (kEs_snoc (kEs_snoc kEs_nil (kE_aload_0 dX12_of_91)) (kE_iload_1 dX12_of_92)) dX12_of_93 c_Md_partOf mv_Md_partOf lm_RX12_160 ⟨rfl, rfl, by decide, by decide⟩ (by decide)) ⟨fun _ => dX12_of_96, fun q => (by cases q), fun q => (by cases q)⟩)) | (simp; exact (kSt_ret (tag := 0) (kE_call (kEs_snoc (kEs_snoc kEs_nil (kE_aload_0 dX12_of_91)) (kE_iload_1 dX12_of_92)) dX12_of_93 c_Md_partOf mv_Md_partOf lm_RX12_160 ⟨rfl, rfl, by decide, by decide⟩ (by decide)) ⟨fun _ => dX12_of_96, fun q => (by cases q), fun q => (by cases q)⟩))⟩
    by_cases h2 : z = 2
    · subst h2; exact ⟨97, Or.inr ⟨by decide, by decide, 61, rfl, by decide⟩, by
      first | (simp only [reduceIte, Int.reduceEq]; exact (kSt_ret (tag := 0) (kE_call (kEs_snoc (kEs_snoc kEs_nil (kE_aload_0 dX12_of_97)) (kE_iload_1 dX12_of_98)) dX12_of_99 c_Md_strongOf mv_Md_strongOf lm_RX12_218 ⟨rfl, rfl, by decide, by decide⟩ (by decide)) ⟨fun _ => dX12_of_102, fun q => (by cases q), fun q => (by cases q)⟩)) | (simp; exact (kSt_ret (tag := 0) (kE_call (kEs_snoc (kEs_snoc kEs_nil (kE_aload_0 dX12_of_97)) (kE_iload_1 dX12_of_98)) dX12_of_99 c_Md_strongOf mv_Md_strongOf lm_RX12_218 ⟨rfl, rfl, by decide, by decide⟩ (by decide)) ⟨fun _ => dX12_of_102, fun q => (by cases q), fun q => (by cases q)⟩))⟩
    by_cases h3 : z = 3
    · subst h3; exact ⟨103, Or.inr ⟨by decide, by decide, 67, rfl, by decide⟩, by
      first | (simp only [reduceIte, Int.reduceEq]; exact (kSt_ret (tag := 0) (kE_iald (kE_get (kE_aload_0 dX12_of_103) lf_RX12_38 dX12_of_104) (kE_iload_1 dX12_of_107) dX12_of_108) ⟨fun _ => dX12_of_109, fun q => (by cases q), fun q => (by cases q)⟩)) | (simp; exact (kSt_ret (tag := 0) (kE_iald (kE_get (kE_aload_0 dX12_of_103) lf_RX12_38 dX12_of_104) (kE_iload_1 dX12_of_107) dX12_of_108) ⟨fun _ => dX12_of_109, fun q => (by cases q), fun q => (by cases q)⟩))⟩
    by_cases h4 : z = 4
    · subst h4; exact ⟨110, Or.inr ⟨by decide, by decide, 74, rfl, by decide⟩, by
      first | (simp only [reduceIte, Int.reduceEq]; exact (kSt_seq (p1 := 114) (kSt_call (kEs_snoc kEs_nil (kE_aload_0 dX12_of_110)) dX12_of_111 c_Md_cores mv_Md_cores lm_RX12_221 ⟨rfl, rfl, by decide, by decide⟩)
  (kSt_ret (tag := 0) (kE_iald (kE_get (kE_aload_0 dX12_of_114) lf_RX12_108 dX12_of_115) (kE_iload_1 dX12_of_118) dX12_of_119) ⟨fun _ => dX12_of_120, fun q => (by cases q), fun q => (by cases q)⟩))) | (simp; exact (kSt_seq (p1 := 114) (kSt_call (kEs_snoc kEs_nil (kE_aload_0 dX12_of_110)) dX12_of_111 c_Md_cores mv_Md_cores lm_RX12_221 ⟨rfl, rfl, by decide, by decide⟩)
  (kSt_ret (tag := 0) (kE_iald (kE_get (kE_aload_0 dX12_of_114) lf_RX12_108 dX12_of_115) (kE_iload_1 dX12_of_118) dX12_of_119) ⟨fun _ => dX12_of_120, fun q => (by cases q), fun q => (by cases q)⟩)))⟩
    by_cases h5 : z = 5
    · subst h5; exact ⟨121, Or.inr ⟨by decide, by decide, 85, rfl, by decide⟩, by
      first | (simp only [reduceIte, Int.reduceEq]; exact (kSt_seq (p1 := 125) (kSt_call (kEs_snoc kEs_nil (kE_aload_0 dX12_of_121)) dX12_of_122 c_Md_theSet mv_Md_theSet lm_RX12_212 ⟨rfl, rfl, by decide, by decide⟩)
  (kSt_ret (tag := 0) (kE_if (kCd_Z (kE_zald (kE_get (kE_aload_0 dX12_of_125) lf_RX12_99 dX12_of_126) (kE_iload_1 dX12_of_129) dX12_of_130) (kZf_1 (tgt := 138) dX12_of_131 (by decide))) (kE_goto (tgt := 139) (kE_ic_1 dX12_of_134) dX12_of_135 (by decide)) (kE_ic_0 dX12_of_138)) ⟨fun _ => dX12_of_139, fun q => (by cases q), fun q => (by cases q)⟩))) | (simp; exact (kSt_seq (p1 := 125) (kSt_call (kEs_snoc kEs_nil (kE_aload_0 dX12_of_121)) dX12_of_122 c_Md_theSet mv_Md_theSet lm_RX12_212 ⟨rfl, rfl, by decide, by decide⟩)
  (kSt_ret (tag := 0) (kE_if (kCd_Z (kE_zald (kE_get (kE_aload_0 dX12_of_125) lf_RX12_99 dX12_of_126) (kE_iload_1 dX12_of_129) dX12_of_130) (kZf_1 (tgt := 138) dX12_of_131 (by decide))) (kE_goto (tgt := 139) (kE_ic_1 dX12_of_134) dX12_of_135 (by decide)) (kE_ic_0 dX12_of_138)) ⟨fun _ => dX12_of_139, fun q => (by cases q), fun q => (by cases q)⟩)))⟩
    by_cases h6 : z = 6
    · subst h6; exact ⟨140, Or.inr ⟨by decide, by decide, 104, rfl, by decide⟩, by
      first | (simp only [reduceIte, Int.reduceEq]; exact (kSt_seq (p1 := 144) (kSt_call (kEs_snoc kEs_nil (kE_aload_0 dX12_of_140)) dX12_of_141 c_Md_neighbours mv_Md_neighbours lm_RX12_209 ⟨rfl, rfl, by decide, by decide⟩)
  (kSt_ret (tag := 0) (kE_iald (kE_get (kE_aload_0 dX12_of_144) lf_RX12_96 dX12_of_145) (kE_iload_1 dX12_of_148) dX12_of_149) ⟨fun _ => dX12_of_150, fun q => (by cases q), fun q => (by cases q)⟩))) | (simp; exact (kSt_seq (p1 := 144) (kSt_call (kEs_snoc kEs_nil (kE_aload_0 dX12_of_140)) dX12_of_141 c_Md_neighbours mv_Md_neighbours lm_RX12_209 ⟨rfl, rfl, by decide, by decide⟩)
  (kSt_ret (tag := 0) (kE_iald (kE_get (kE_aload_0 dX12_of_144) lf_RX12_96 dX12_of_145) (kE_iload_1 dX12_of_148) dX12_of_149) ⟨fun _ => dX12_of_150, fun q => (by cases q), fun q => (by cases q)⟩)))⟩
    by_cases h7 : z = 7
    · subst h7; exact ⟨151, Or.inr ⟨by decide, by decide, 115, rfl, by decide⟩, by
      first | (simp only [reduceIte, Int.reduceEq]; exact (kSt_trunc (kSt_seq (p1 := 157) (kSt_let (kE_call (kEs_snoc (kEs_snoc kEs_nil (kE_aload_0 dX12_of_151)) (kE_iload_1 dX12_of_152)) dX12_of_153 c_Md_partOf mv_Md_partOf lm_RX12_160 ⟨rfl, rfl, by decide, by decide⟩ (by decide)) (kSet_istore_3 dX12_of_156 (by decide)))
  (kSt_seq (p1 := 165) (kSt_call (kEs_snoc (kEs_snoc (kEs_snoc (kEs_snoc (kEs_snoc kEs_nil (kE_aload_0 dX12_of_157)) (kE_iload_1 dX12_of_158)) (kE_ic_0 dX12_of_159)) (kE_ic_0 dX12_of_160)) (kE_ic_m1 dX12_of_161)) dX12_of_162 c_Md_walk mv_Md_walk lm_RX12_152 ⟨rfl, rfl, by decide, by decide⟩)
  (kSt_ret (tag := 0) (kE_iald (kE_get (kE_aload_0 dX12_of_165) lf_RX12_65 dX12_of_166) (kE_iload_3 dX12_of_169) dX12_of_170) ⟨fun _ => dX12_of_171, fun q => (by cases q), fun q => (by cases q)⟩))))) | (simp; exact (kSt_trunc (kSt_seq (p1 := 157) (kSt_let (kE_call (kEs_snoc (kEs_snoc kEs_nil (kE_aload_0 dX12_of_151)) (kE_iload_1 dX12_of_152)) dX12_of_153 c_Md_partOf mv_Md_partOf lm_RX12_160 ⟨rfl, rfl, by decide, by decide⟩ (by decide)) (kSet_istore_3 dX12_of_156 (by decide)))
  (kSt_seq (p1 := 165) (kSt_call (kEs_snoc (kEs_snoc (kEs_snoc (kEs_snoc (kEs_snoc kEs_nil (kE_aload_0 dX12_of_157)) (kE_iload_1 dX12_of_158)) (kE_ic_0 dX12_of_159)) (kE_ic_0 dX12_of_160)) (kE_ic_m1 dX12_of_161)) dX12_of_162 c_Md_walk mv_Md_walk lm_RX12_152 ⟨rfl, rfl, by decide, by decide⟩)
  (kSt_ret (tag := 0) (kE_iald (kE_get (kE_aload_0 dX12_of_165) lf_RX12_65 dX12_of_166) (kE_iload_3 dX12_of_169) dX12_of_170) ⟨fun _ => dX12_of_171, fun q => (by cases q), fun q => (by cases q)⟩)))))⟩
    refine ⟨172, Or.inl ⟨by omega, by decide⟩, ?_⟩
    simp only [h0, h1, h2, h3, h4, h5, h6, h7]; exact (kSt_ret (tag := 0) (kE_if (kCd_C (kE_call (kEs_snoc (kEs_snoc kEs_nil (kE_aload_0 dX12_of_172)) (kE_iload_1 dX12_of_173)) dX12_of_174 c_Md_oddOf mv_Md_oddOf lm_RX12_224 ⟨rfl, rfl, by decide, by decide⟩ (by decide)) (kE_ic_m1 dX12_of_177) (kJf_0 (tgt := 185) dX12_of_178 (by decide))) (kE_goto (tgt := 186) (kE_ic_1 dX12_of_181) dX12_of_182 (by decide)) (kE_ic_0 dX12_of_185)) ⟨fun _ => dX12_of_186, fun q => (by cases q), fun q => (by cases q)⟩))))))
noncomputable def F_Md_of : kFn := kF 3 kI s_Md_of
theorem c_Md_of : kCon yX12_of cX12_of 4 (some .int) { frames := 2, cells := 0, slots := 0, locals := 51 } F_Md_of := kCon_of kEnds_I (by decide +kernel) (by decide) ⟨0, 0, 0, b_Md_of⟩
