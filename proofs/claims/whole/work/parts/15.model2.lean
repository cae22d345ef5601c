noncomputable def s_Md_arc : kSx :=
  (sSeq (sPut 12 22 (eR 0) (eK (0)))
  (sSeq (sIf (cNot (cZ 1 (eCall 12 F_Md_isArc (eSnoc (eSnoc eNil (eR 0)) (eI 1))))) (sRet 0 (eCall 12 F_Md_fail (eSnoc (eSnoc eNil (eR 0)) (eK (1))))) sSkip)
  (sSeq (sIf (cOr (cZ 2 (eI 2)) (cC 4 (eI 2) (eK (6)))) (sRet 0 (eCall 12 F_Md_fail (eSnoc (eSnoc eNil (eR 0)) (eK (2))))) sSkip)
  (sSeq (sLet 0 3 (eIf (cC 0 (eI 2) (eK (3))) (eAld 1 (eGet 12 7 (eR 0)) (eI 1)) (eIf (cC 0 (eI 2) (eK (4))) (eCall 12 F_Md_isOdd (eSnoc (eSnoc eNil (eR 0)) (eI 1))) (eIf (cC 0 (eI 2) (eK (5))) (eCall 12 F_Md_isBridge (eSnoc (eSnoc eNil (eR 0)) (eI 1))) (eIf (cAnd (cC 0 (eI 2) (eK (6))) (cZ 1 (eAld 1 (eGet 12 8 (eR 0)) (eI 1)))) (eK (1)) (eK (0)))))))
  (sRet 0 (eIf (cZ 0 (eI 2)) (eAld 0 (eGet 12 4 (eR 0)) (eI 1)) (eIf (cC 0 (eI 2) (eK (1))) (eAld 0 (eGet 12 5 (eR 0)) (eI 1)) (eIf (cC 0 (eI 2) (eK (2))) (eAld 0 (eGet 12 6 (eR 0)) (eI 1)) (eIf (cZ 1 (eI 3)) (eK (1)) (eK (0)))))))))))
abbrev M_Md_arc : kM := (cX12_arc, yX12_arc.cls, 4, { frames := 2, cells := 0, slots := 0, locals := 49 }, (some .int))
set_option maxRecDepth 20000 in
theorem b_Md_arc : kSt M_Md_arc 0 0 0 0 s_Md_arc :=
  (kSt_seq (p1 := 5) (kSt_put (kE_aload_0 dX12_arc_0) (kE_ic_0 dX12_arc_1) lp_RX12_136 dX12_arc_2)
  (kSt_seq (p1 := 19) (kSt_if (kCd_not (kCd_Z (kE_call (kEs_snoc (kEs_snoc kEs_nil (kE_aload_0 dX12_arc_5)) (kE_iload_1 dX12_arc_6)) dX12_arc_7 c_Md_isArc mv_Md_isArc lm_RX12_200 ⟨rfl, rfl, by decide, by decide⟩ (by decide)) (kZt_1 (tgt := 19) dX12_arc_10 (by decide)))) (kSt_ret (tag := 0) (kE_call (kEs_snoc (kEs_snoc kEs_nil (kE_aload_0 dX12_arc_13)) (kE_ic_1 dX12_arc_14)) dX12_arc_15 c_Md_fail mv_Md_fail lm_RX12_164 ⟨rfl, rfl, by decide, by decide⟩ (by decide)) ⟨fun _ => dX12_arc_18, fun q => (by cases q), fun q => (by cases q)⟩) kSt_skip)
  (kSt_seq (p1 := 35) (kSt_if (kCd_or (kCd_Z (kE_iload_2 dX12_arc_19) (kZt_2 (tgt := 29) dX12_arc_20 (by decide))) (kCd_C (kE_iload_2 dX12_arc_23) (kE_bipush dX12_arc_24 (by rfl) ⟨by decide, by decide⟩) (kJf_4 (tgt := 35) dX12_arc_26 (by decide)))) (kSt_ret (tag := 0) (kE_call (kEs_snoc (kEs_snoc kEs_nil (kE_aload_0 dX12_arc_29)) (kE_ic_2 dX12_arc_30)) dX12_arc_31 c_Md_fail mv_Md_fail lm_RX12_164 ⟨rfl, rfl, by decide, by decide⟩ (by decide)) ⟨fun _ => dX12_arc_34, fun q => (by cases q), fun q => (by cases q)⟩) kSt_skip)
  (kSt_seq (p1 := 96) (kSt_let (kE_if (kCd_C (kE_iload_2 dX12_arc_35) (kE_ic_3 dX12_arc_36) (kJf_0 (tgt := 49) dX12_arc_37 (by decide))) (kE_goto (tgt := 95) (kE_zald (kE_get (kE_aload_0 dX12_arc_40) lf_RX12_22 dX12_arc_41) (kE_iload_1 dX12_arc_44) dX12_arc_45) dX12_arc_46 (by decide)) (kE_if (kCd_C (kE_iload_2 dX12_arc_49) (kE_ic_4 dX12_arc_50) (kJf_0 (tgt := 62) dX12_arc_51 (by decide))) (kE_goto (tgt := 95) (kE_call (kEs_snoc (kEs_snoc kEs_nil (kE_aload_0 dX12_arc_54)) (kE_iload_1 dX12_arc_55)) dX12_arc_56 c_Md_isOdd mv_Md_isOdd lm_RX12_227 ⟨rfl, rfl, by decide, by decide⟩ (by decide)) dX12_arc_59 (by decide)) (kE_if (kCd_C (kE_iload_2 dX12_arc_62) (kE_ic_5 dX12_arc_63) (kJf_0 (tgt := 75) dX12_arc_64 (by decide))) (kE_goto (tgt := 95) (kE_call (kEs_snoc (kEs_snoc kEs_nil (kE_aload_0 dX12_arc_67)) (kE_iload_1 dX12_arc_68)) dX12_arc_69 c_Md_isBridge mv_Md_isBridge lm_RX12_230 ⟨rfl, rfl, by decide, by decide⟩ (by decide)) dX12_arc_72 (by decide)) (kE_if (kCd_and (kCd_C (kE_iload_2 dX12_arc_75) (kE_bipush dX12_arc_76 (by rfl) ⟨by decide, by decide⟩) (kJf_0 (tgt := 94) dX12_arc_78 (by decide))) (kCd_Z (kE_zald (kE_get (kE_aload_0 dX12_arc_81) lf_RX12_26 dX12_arc_82) (kE_iload_1 dX12_arc_85) dX12_arc_86) (kZf_1 (tgt := 94) dX12_arc_87 (by decide)))) (kE_goto (tgt := 95) (kE_ic_1 dX12_arc_90) dX12_arc_91 (by decide)) (kE_ic_0 dX12_arc_94))))) (kSet_istore_3 dX12_arc_95 (by decide)))
  (kSt_ret (tag := 0) (kE_if (kCd_Z (kE_iload_2 dX12_arc_96) (kZf_0 (tgt := 109) dX12_arc_97 (by decide))) (kE_goto (tgt := 146) (kE_iald (kE_get (kE_aload_0 dX12_arc_100) lf_RX12_13 dX12_arc_101) (kE_iload_1 dX12_arc_104) dX12_arc_105) dX12_arc_106 (by decide)) (kE_if (kCd_C (kE_iload_2 dX12_arc_109) (kE_ic_1 dX12_arc_110) (kJf_0 (tgt := 123) dX12_arc_111 (by decide))) (kE_goto (tgt := 146) (kE_iald (kE_get (kE_aload_0 dX12_arc_114) lf_RX12_16 dX12_arc_115) (kE_iload_1 dX12_arc_118) dX12_arc_119) dX12_arc_120 (by decide)) (kE_if (kCd_C (kE_iload_2 dX12_arc_123) (kE_ic_2 dX12_arc_124) (kJf_0 (tgt := 137) dX12_arc_125 (by decide))) (kE_goto (tgt := 146) (kE_iald (kE_get (kE_aload_0 dX12_arc_128) lf_RX12_19 dX12_arc_129) (kE_iload_1 dX12_arc_132) dX12_arc_133) dX12_arc_134 (by decide)) (kE_if (kCd_Z (kE_iload_3 dX12_arc_137) (kZf_1 (tgt := 145) dX12_arc_138 (by decide))) (kE_goto (tgt := 146) (kE_ic_1 dX12_arc_141) dX12_arc_142 (by decide)) (kE_ic_0 dX12_arc_145))))) ⟨fun _ => dX12_arc_146, fun q => (by cases q), fun q => (by cases q)⟩)))))
noncomputable def F_Md_arc : kFn := kF 3 kI s_Md_arc
theorem c_Md_arc : kCon yX12_arc cX12_arc 4 (some .int) { frames := 2, cells := 0, slots := 0, locals := 49 } F_Md_arc := kCon_of kEnds_I (by decide +kernel) (by decide) ⟨0, 0, 0, b_Md_arc⟩
noncomputable def s_Md_order : kSx :=
  (sSeq (sPut 12 22 (eR 0) (eK (0)))
  (sRet 0 (eIf (cZ 1 (eCall 12 F_Md_isNode (eSnoc (eSnoc eNil (eR 0)) (eI 1)))) (eAld 0 (eGet 12 12 (eR 0)) (eI 1)) (eCall 12 F_Md_fail (eSnoc (eSnoc eNil (eR 0)) (eK (1)))))))
abbrev M_Md_order : kM := (cX12_order, yX12_order.cls, 2, { frames := 1, cells := 0, slots := 0, locals := 21 }, (some .int))
set_option maxRecDepth 20000 in
theorem b_Md_order : kSt M_Md_order 0 0 0 0 s_Md_order :=
  (kSt_seq (p1 := 5) (kSt_put (kE_aload_0 dX12_order_0) (kE_ic_0 dX12_order_1) lp_RX12_136 dX12_order_2)
  (kSt_ret (tag := 0) (kE_if (kCd_Z (kE_call (kEs_snoc (kEs_snoc kEs_nil (kE_aload_0 dX12_order_5)) (kE_iload_1 dX12_order_6)) dX12_order_7 c_Md_isNode mv_Md_isNode lm_RX12_176 ⟨rfl, rfl, by decide, by decide⟩ (by decide)) (kZf_1 (tgt := 22) dX12_order_10 (by decide))) (kE_goto (tgt := 27) (kE_iald (kE_get (kE_aload_0 dX12_order_13) lf_RX12_35 dX12_order_14) (kE_iload_1 dX12_order_17) dX12_order_18) dX12_order_19 (by decide)) (kE_call (kEs_snoc (kEs_snoc kEs_nil (kE_aload_0 dX12_order_22)) (kE_ic_1 dX12_order_23)) dX12_order_24 c_Md_fail mv_Md_fail lm_RX12_164 ⟨rfl, rfl, by decide, by decide⟩ (by decide))) ⟨fun _ => dX12_order_27, fun q => (by cases q), fun q => (by cases q)⟩))
noncomputable def F_Md_order : kFn := kF 2 kI s_Md_order
theorem c_Md_order : kCon yX12_order cX12_order 2 (some .int) { frames := 1, cells := 0, slots := 0, locals := 21 } F_Md_order := kCon_of kEnds_I (by decide +kernel) (by decide) ⟨0, 0, 0, b_Md_order⟩
noncomputable def l_Md_odd_1 : kSx := sFor 6 (cC 1 (eI 4) (eAld 0 (eGet 12 4 (eR 0)) (eI 3)))
  (sSeq (sIf (cC 0 (eI 5) (eI 2)) (sRet 0 (eBin kDiv (eAld 0 (eGet 12 25 (eR 0)) (eI 4)) (eK (2)))) sSkip)
  (sLet 0 4 (eCall 12 F_Md_other (eSnoc (eSnoc eNil (eR 0)) (eAld 0 (eGet 12 25 (eR 0)) (eI 4))))))
  (sInc 5 (1))
noncomputable def s_Md_odd : kSx :=
  (sSeq (sPut 12 22 (eR 0) (eK (0)))
  (sSeq (sIf (cOr (cNot (cZ 1 (eCall 12 F_Md_isNode (eSnoc (eSnoc eNil (eR 0)) (eI 1))))) (cZ 2 (eI 2))) (sRet 0 (eCall 12 F_Md_fail (eSnoc (eSnoc eNil (eR 0)) (eK (1))))) sSkip)
  (sSeq (sLet 0 3 (eCall 12 F_Md_oddOf (eSnoc (eSnoc eNil (eR 0)) (eI 1))))
  (sSeq (sIf (cOr (cC 0 (eI 3) (eK (-1))) (cZ 0 (eI 2))) (sRet 0 (eI 3)) sSkip)
  (sSeq (sCall 12 F_Md_walk (eSnoc (eSnoc (eSnoc (eSnoc (eSnoc eNil (eR 0)) (eAld 0 (eGet 12 4 (eR 0)) (eI 3))) (eK (0))) (eK (0))) (eK (-1))))
  (sSeq (sLet 0 4 (eAld 0 (eGet 12 5 (eR 0)) (eI 3)))
  (sSeq (sTrunc 5 (sSeq (sLet 0 5 (eK (1))) l_Md_odd_1))
  (sRet 0 (eK (-1))))))))))
abbrev M_Md_odd : kM := (cX12_odd, yX12_odd.cls, 6, { frames := 2, cells := 0, slots := 0, locals := 51 }, (some .int))
set_option maxRecDepth 20000 in
theorem b_Md_odd : kSt M_Md_odd 0 0 0 0 s_Md_odd :=
  (kSt_seq (p1 := 5) (kSt_put (kE_aload_0 dX12_odd_0) (kE_ic_0 dX12_odd_1) lp_RX12_136 dX12_odd_2)
  (kSt_seq (p1 := 23) (kSt_if (kCd_or (kCd_not (kCd_Z (kE_call (kEs_snoc (kEs_snoc kEs_nil (kE_aload_0 dX12_odd_5)) (kE_iload_1 dX12_odd_6)) dX12_odd_7 c_Md_isNode mv_Md_isNode lm_RX12_176 ⟨rfl, rfl, by decide, by decide⟩ (by decide)) (kZf_1 (tgt := 17) dX12_odd_10 (by decide)))) (kCd_Z (kE_iload_2 dX12_odd_13) (kZf_2 (tgt := 23) dX12_odd_14 (by decide)))) (kSt_ret (tag := 0) (kE_call (kEs_snoc (kEs_snoc kEs_nil (kE_aload_0 dX12_odd_17)) (kE_ic_1 dX12_odd_18)) dX12_odd_19 c_Md_fail mv_Md_fail lm_RX12_164 ⟨rfl, rfl, by decide, by decide⟩ (by decide)) ⟨fun _ => dX12_odd_22, fun q => (by cases q), fun q => (by cases q)⟩) kSt_skip)
  (kSt_seq (p1 := 29) (kSt_let (kE_call (kEs_snoc (kEs_snoc kEs_nil (kE_aload_0 dX12_odd_23)) (kE_iload_1 dX12_odd_24)) dX12_odd_25 c_Md_oddOf mv_Md_oddOf lm_RX12_224 ⟨rfl, rfl, by decide, by decide⟩ (by decide)) (kSet_istore_3 dX12_odd_28 (by decide)))
  (kSt_seq (p1 := 40) (kSt_if (kCd_or (kCd_C (kE_iload_3 dX12_odd_29) (kE_ic_m1 dX12_odd_30) (kJt_0 (tgt := 38) dX12_odd_31 (by decide))) (kCd_Z (kE_iload_2 dX12_odd_34) (kZf_0 (tgt := 40) dX12_odd_35 (by decide)))) (kSt_ret (tag := 0) (kE_iload_3 dX12_odd_38) ⟨fun _ => dX12_odd_39, fun q => (by cases q), fun q => (by cases q)⟩) kSt_skip)
  (kSt_seq (p1 := 53) (kSt_call (kEs_snoc (kEs_snoc (kEs_snoc (kEs_snoc (kEs_snoc kEs_nil (kE_aload_0 dX12_odd_40)) (kE_iald (kE_get (kE_aload_0 dX12_odd_41) lf_RX12_13 dX12_odd_42) (kE_iload_3 dX12_odd_45) dX12_odd_46)) (kE_ic_0 dX12_odd_47)) (kE_ic_0 dX12_odd_48)) (kE_ic_m1 dX12_odd_49)) dX12_odd_50 c_Md_walk mv_Md_walk lm_RX12_152 ⟨rfl, rfl, by decide, by decide⟩)
  (kSt_seq (p1 := 61) (kSt_let (kE_iald (kE_get (kE_aload_0 dX12_odd_53) lf_RX12_16 dX12_odd_54) (kE_iload_3 dX12_odd_57) dX12_odd_58) (kSet_istore dX12_odd_59 (by decide)))
  (kSt_seq (p1 := 110) (kSt_trunc (kSt_seq (kSt_let (kE_ic_1 dX12_odd_61) (kSet_istore dX12_odd_62 (by decide))) (kSt_for (pu := 104) (pt := 75) (kCd_C (kE_iload dX12_odd_64) (kE_iald (kE_get (kE_aload_0 dX12_odd_66) lf_RX12_13 dX12_odd_67) (kE_iload_3 dX12_odd_70) dX12_odd_71) (kJf_1 (tgt := 110) dX12_odd_72 (by decide))) (kSt_seq (p1 := 91) (kSt_if (kCd_C (kE_iload dX12_odd_75) (kE_iload_2 dX12_odd_77) (kJf_0 (tgt := 91) dX12_odd_78 (by decide))) (kSt_ret (tag := 0) (kE_bin (kE_iald (kE_get (kE_aload_0 dX12_odd_81) lf_RX12_62 dX12_odd_82) (kE_iload dX12_odd_85) dX12_odd_87) (kE_ic_2 dX12_odd_88) (kOp_div dX12_odd_89)) ⟨fun _ => dX12_odd_90, fun q => (by cases q), fun q => (by cases q)⟩) kSt_skip)
  (kSt_let (kE_call (kEs_snoc (kEs_snoc kEs_nil (kE_aload_0 dX12_odd_91)) (kE_iald (kE_get (kE_aload_0 dX12_odd_92) lf_RX12_62 dX12_odd_93) (kE_iload dX12_odd_96) dX12_odd_98)) dX12_odd_99 c_Md_other mv_Md_other lm_RX12_215 ⟨rfl, rfl, by decide, by decide⟩ (by decide)) (kSet_istore dX12_odd_102 (by decide)))) (kSt_goto (tgt := 64) (kSt_inc dX12_odd_104 (by decide)) dX12_odd_107 (by decide)))))
  (kSt_ret (tag := 0) (kE_ic_m1 dX12_odd_110) ⟨fun _ => dX12_odd_111, fun q => (by cases q), fun q => (by cases q)⟩))))))))
noncomputable def F_Md_odd : kFn := kF 3 kI s_Md_odd
theorem c_Md_odd : kCon yX12_odd cX12_odd 6 (some .int) { frames := 2, cells := 0, slots := 0, locals := 51 } F_Md_odd := kCon_of kEnds_I (by decide +kernel) (by decide) ⟨0, 0, 0, b_Md_odd⟩
noncomputable def s_Md_ring : kSx :=
  (sSeq (sPut 12 22 (eR 0) (eK (0)))
  (sRet 0 (eIf (cZ 2 (eI 1)) (eCall 12 F_Md_fail (eSnoc (eSnoc eNil (eR 0)) (eK (1)))) (eIf (cC 2 (eI 1) (eGet 12 14 (eR 0))) (eAld 0 (eGet 12 15 (eR 0)) (eI 1)) (eK (-1))))))
abbrev M_Md_ring : kM := (cX12_ring, yX12_ring.cls, 2, { frames := 1, cells := 0, slots := 0, locals := 21 }, (some .int))
set_option maxRecDepth 20000 in
theorem b_Md_ring : kSt M_Md_ring 0 0 0 0 s_Md_ring :=
  (kSt_seq (p1 := 5) (kSt_put (kE_aload_0 dX12_ring_0) (kE_ic_0 dX12_ring_1) lp_RX12_136 dX12_ring_2)
  (kSt_ret (tag := 0) (kE_if (kCd_Z (kE_iload_1 dX12_ring_5) (kZf_2 (tgt := 17) dX12_ring_6 (by decide))) (kE_goto (tgt := 35) (kE_call (kEs_snoc (kEs_snoc kEs_nil (kE_aload_0 dX12_ring_9)) (kE_ic_1 dX12_ring_10)) dX12_ring_11 c_Md_fail mv_Md_fail lm_RX12_164 ⟨rfl, rfl, by decide, by decide⟩ (by decide)) dX12_ring_14 (by decide)) (kE_if (kCd_C (kE_iload_1 dX12_ring_17) (kE_get (kE_aload_0 dX12_ring_18) lf_RX12_197 dX12_ring_19) (kJf_2 (tgt := 34) dX12_ring_22 (by decide))) (kE_goto (tgt := 35) (kE_iald (kE_get (kE_aload_0 dX12_ring_25) lf_RX12_41 dX12_ring_26) (kE_iload_1 dX12_ring_29) dX12_ring_30) dX12_ring_31 (by decide)) (kE_ic_m1 dX12_ring_34))) ⟨fun _ => dX12_ring_35, fun q => (by cases q), fun q => (by cases q)⟩))
noncomputable def F_Md_ring : kFn := kF 2 kI s_Md_ring
theorem c_Md_ring : kCon yX12_ring cX12_ring 2 (some .int) { frames := 1, cells := 0, slots := 0, locals := 21 } F_Md_ring := kCon_of kEnds_I (by decide +kernel) (by decide) ⟨0, 0, 0, b_Md_ring⟩
noncomputable def l_Md_triangles_1 : kSx := sFor 6 (cAnd (cC 2 (eI 5) (eGet 12 1 (eR 0))) (cZ 1 (eAld 1 (eGet 12 36 (eR 0)) (eBin kAdd (eBin kMul (eK (300)) (eI 3)) (eI 4)))))
  (sLet 2 1 (eLAdd (eJ 1) (eIf (cAnd (cZ 1 (eAld 1 (eGet 12 36 (eR 0)) (eBin kAdd (eBin kMul (eK (300)) (eI 3)) (eI 5)))) (cZ 1 (eAld 1 (eGet 12 36 (eR 0)) (eBin kAdd (eBin kMul (eK (300)) (eI 4)) (eI 5))))) (eKL (1)) (eKL (0)))))
  (sInc 5 (1))
noncomputable def l_Md_triangles_2 : kSx := sFor 5 (cC 2 (eI 4) (eGet 12 1 (eR 0)))
  (sTrunc 5 (sSeq (sLet 0 5 (eBin kAdd (eI 4) (eK (1)))) l_Md_triangles_1))
  (sInc 4 (1))
noncomputable def l_Md_triangles_3 : kSx := sFor 4 (cC 2 (eI 3) (eGet 12 1 (eR 0)))
  (sTrunc 4 (sSeq (sLet 0 4 (eBin kAdd (eI 3) (eK (1)))) l_Md_triangles_2))
  (sInc 3 (1))
noncomputable def s_Md_triangles : kSx :=
  (sSeq (sPut 12 22 (eR 0) (eK (0)))
  (sSeq (sCall 12 F_Md_neighbours (eSnoc eNil (eR 0)))
  (sSeq (sLet 2 1 (eKL (0)))
  (sSeq (sTrunc 3 (sSeq (sLet 0 3 (eK (0))) l_Md_triangles_3))
  (sRet 2 (eJ 1))))))
abbrev M_Md_triangles : kM := (cX12_triangles, yX12_triangles.cls, 6, { frames := 1, cells := 0, slots := 0, locals := 23 }, (some .long))
set_option maxRecDepth 20000 in
theorem b_Md_triangles : kSt M_Md_triangles 0 0 0 0 s_Md_triangles :=
  (kSt_seq (p1 := 5) (kSt_put (kE_aload_0 dX12_triangles_0) (kE_ic_0 dX12_triangles_1) lp_RX12_136 dX12_triangles_2)
  (kSt_seq (p1 := 9) (kSt_call (kEs_snoc kEs_nil (kE_aload_0 dX12_triangles_5)) dX12_triangles_6 c_Md_neighbours mv_Md_neighbours lm_RX12_209 ⟨rfl, rfl, by decide, by decide⟩)
  (kSt_seq (p1 := 11) (kSt_let (kE_lc_0 dX12_triangles_9) (kSet_lstore_1 dX12_triangles_10 (by decide)))
  (kSt_seq (p1 := 125) (kSt_trunc (kSt_seq (kSt_let (kE_ic_0 dX12_triangles_11) (kSet_istore_3 dX12_triangles_12 (by decide))) (kSt_for (pu := 119) (pt := 21) (kCd_C (kE_iload_3 dX12_triangles_13) (kE_get (kE_aload_0 dX12_triangles_14) lf_RX12_140 dX12_triangles_15) (kJf_2 (tgt := 125) dX12_triangles_18 (by decide))) (kSt_trunc (kSt_seq (kSt_let (kE_bin (kE_iload_3 dX12_triangles_21) (kE_ic_1 dX12_triangles_22) (kOp_add dX12_triangles_23)) (kSet_istore dX12_triangles_24 (by decide))) (kSt_for (pu := 113) (pt := 35) (kCd_C (kE_iload dX12_triangles_26) (kE_get (kE_aload_0 dX12_triangles_28) lf_RX12_140 dX12_triangles_29) (kJf_2 (tgt := 119) dX12_triangles_32 (by decide))) (kSt_trunc (kSt_seq (kSt_let (kE_bin (kE_iload dX12_triangles_35) (kE_ic_1 dX12_triangles_37) (kOp_add dX12_triangles_38)) (kSet_istore dX12_triangles_39 (by decide))) (kSt_for (pu := 107) (pt := 66) (kCd_and (kCd_C (kE_iload dX12_triangles_41) (kE_get (kE_aload_0 dX12_triangles_43) lf_RX12_140 dX12_triangles_44) (kJf_2 (tgt := 113) dX12_triangles_47 (by decide))) (kCd_Z (kE_zald (kE_get (kE_aload_0 dX12_triangles_50) lf_RX12_93 dX12_triangles_51) (kE_bin (kE_bin (kE_sipush dX12_triangles_54 (by rfl) ⟨by decide, by decide⟩) (kE_iload_3 dX12_triangles_57) (kOp_mul dX12_triangles_58)) (kE_iload dX12_triangles_59) (kOp_add dX12_triangles_61)) dX12_triangles_62) (kZf_1 (tgt := 113) dX12_triangles_63 (by decide)))) (kSt_let (kE_ladd (kE_lload_1 dX12_triangles_66) (kE_if (kCd_and (kCd_Z (kE_zald (kE_get (kE_aload_0 dX12_triangles_67) lf_RX12_93 dX12_triangles_68) (kE_bin (kE_bin (kE_sipush dX12_triangles_71 (by rfl) ⟨by decide, by decide⟩) (kE_iload_3 dX12_triangles_74) (kOp_mul dX12_triangles_75)) (kE_iload dX12_triangles_76) (kOp_add dX12_triangles_78)) dX12_triangles_79) (kZf_1 (tgt := 104) dX12_triangles_80 (by decide))) (kCd_Z (kE_zald (kE_get (kE_aload_0 dX12_triangles_83) lf_RX12_93 dX12_triangles_84) (kE_bin (kE_bin (kE_sipush dX12_triangles_87 (by rfl) ⟨by decide, by decide⟩) (kE_iload dX12_triangles_90) (kOp_mul dX12_triangles_92)) (kE_iload dX12_triangles_93) (kOp_add dX12_triangles_95)) dX12_triangles_96) (kZf_1 (tgt := 104) dX12_triangles_97 (by decide)))) (kE_goto (tgt := 105) (kE_lc_1 dX12_triangles_100) dX12_triangles_101 (by decide)) (kE_lc_0 dX12_triangles_104)) dX12_triangles_105) (kSet_lstore_1 dX12_triangles_106 (by decide))) (kSt_goto (tgt := 41) (kSt_inc dX12_triangles_107 (by decide)) dX12_triangles_110 (by decide))))) (kSt_goto (tgt := 26) (kSt_inc dX12_triangles_113 (by decide)) dX12_triangles_116 (by decide))))) (kSt_goto (tgt := 13) (kSt_inc dX12_triangles_119 (by decide)) dX12_triangles_122 (by decide)))))
  (kSt_ret (tag := 2) (kE_lload_1 dX12_triangles_125) ⟨fun q => (by cases q), fun q => (by cases q), fun _ => dX12_triangles_126⟩)))))
noncomputable def F_Md_triangles : kFn := kF 1 kJl s_Md_triangles
theorem c_Md_triangles : kCon yX12_triangles cX12_triangles 6 (some .long) { frames := 1, cells := 0, slots := 0, locals := 23 } F_Md_triangles := kCon_of kEnds_J (by decide +kernel) (by decide) ⟨0, 0, 0, b_Md_triangles⟩
noncomputable def s_Md_planPut : kSx :=
  (sSeq (sPut 12 22 (eR 0) (eK (0)))
  (sSeq (sIf (cOr (cNot (cZ 1 (eCall 12 F_Md_isNode (eSnoc (eSnoc eNil (eR 0)) (eI 1))))) (cNot (cZ 1 (eCall 12 F_Md_isNode (eSnoc (eSnoc eNil (eR 0)) (eI 2)))))) (sRet 0 (eCall 12 F_Md_fail (eSnoc (eSnoc eNil (eR 0)) (eK (1))))) sSkip)
  (sSeq (sIf (cC 0 (eGet 12 17 (eR 0)) (eK (60))) (sRet 0 (eCall 12 F_Md_fail (eSnoc (eSnoc eNil (eR 0)) (eK (2))))) sSkip)
  (sSeq (sAst 1 (eGet 12 18 (eR 0)) (eGet 12 17 (eR 0)) (eK (1)))
  (sSeq (sAst 0 (eGet 12 19 (eR 0)) (eGet 12 17 (eR 0)) (eI 1))
  (sSeq (sAst 0 (eGet 12 20 (eR 0)) (eGet 12 17 (eR 0)) (eI 2))
  (sSeq (sPutOp 12 17 (eR 0) kAdd (eK (1)))
  (sRet 0 (eBin kSub (eGet 12 17 (eR 0)) (eK (1)))))))))))
abbrev M_Md_planPut : kM := (cX12_planPut, yX12_planPut.cls, 3, { frames := 1, cells := 0, slots := 0, locals := 21 }, (some .int))
set_option maxRecDepth 20000 in
theorem b_Md_planPut : kSt M_Md_planPut 0 0 0 0 s_Md_planPut :=
  (kSt_seq (p1 := 5) (kSt_put (kE_aload_0 dX12_planPut_0) (kE_ic_0 dX12_planPut_1) lp_RX12_136 dX12_planPut_2)
  (kSt_seq (p1 := 27) (kSt_if (kCd_or (kCd_not (kCd_Z (kE_call (kEs_snoc (kEs_snoc kEs_nil (kE_aload_0 dX12_planPut_5)) (kE_iload_1 dX12_planPut_6)) dX12_planPut_7 c_Md_isNode mv_Md_isNode lm_RX12_176 ⟨rfl, rfl, by decide, by decide⟩ (by decide)) (kZf_1 (tgt := 21) dX12_planPut_10 (by decide)))) (kCd_not (kCd_Z (kE_call (kEs_snoc (kEs_snoc kEs_nil (kE_aload_0 dX12_planPut_13)) (kE_iload_2 dX12_planPut_14)) dX12_planPut_15 c_Md_isNode mv_Md_isNode lm_RX12_176 ⟨rfl, rfl, by decide, by decide⟩ (by decide)) (kZt_1 (tgt := 27) dX12_planPut_18 (by decide))))) (kSt_ret (tag := 0) (kE_call (kEs_snoc (kEs_snoc kEs_nil (kE_aload_0 dX12_planPut_21)) (kE_ic_1 dX12_planPut_22)) dX12_planPut_23 c_Md_fail mv_Md_fail lm_RX12_164 ⟨rfl, rfl, by decide, by decide⟩ (by decide)) ⟨fun _ => dX12_planPut_26, fun q => (by cases q), fun q => (by cases q)⟩) kSt_skip)
  (kSt_seq (p1 := 42) (kSt_if (kCd_C (kE_get (kE_aload_0 dX12_planPut_27) lf_RX12_167 dX12_planPut_28) (kE_bipush dX12_planPut_31 (by rfl) ⟨by decide, by decide⟩) (kJf_0 (tgt := 42) dX12_planPut_33 (by decide))) (kSt_ret (tag := 0) (kE_call (kEs_snoc (kEs_snoc kEs_nil (kE_aload_0 dX12_planPut_36)) (kE_ic_2 dX12_planPut_37)) dX12_planPut_38 c_Md_fail mv_Md_fail lm_RX12_164 ⟨rfl, rfl, by decide, by decide⟩ (by decide)) ⟨fun _ => dX12_planPut_41, fun q => (by cases q), fun q => (by cases q)⟩) kSt_skip)
  (kSt_seq (p1 := 52) (kSt_zast (kE_get (kE_aload_0 dX12_planPut_42) lf_RX12_44 dX12_planPut_43) (kE_get (kE_aload_0 dX12_planPut_46) lf_RX12_167 dX12_planPut_47) (kE_ic_1 dX12_planPut_50) dX12_planPut_51)
  (kSt_seq (p1 := 62) (kSt_iast (kE_get (kE_aload_0 dX12_planPut_52) lf_RX12_47 dX12_planPut_53) (kE_get (kE_aload_0 dX12_planPut_56) lf_RX12_167 dX12_planPut_57) (kE_iload_1 dX12_planPut_60) dX12_planPut_61)
  (kSt_seq (p1 := 72) (kSt_iast (kE_get (kE_aload_0 dX12_planPut_62) lf_RX12_50 dX12_planPut_63) (kE_get (kE_aload_0 dX12_planPut_66) lf_RX12_167 dX12_planPut_67) (kE_iload_2 dX12_planPut_70) dX12_planPut_71)
  (kSt_seq (p1 := 82) (kSt_putOp (kE_aload_0 dX12_planPut_72) dX12_planPut_73 lf_RX12_167 dX12_planPut_74 (kE_ic_1 dX12_planPut_77) (kOp_add dX12_planPut_78) lp_RX12_167 dX12_planPut_79)
  (kSt_ret (tag := 0) (kE_bin (kE_get (kE_aload_0 dX12_planPut_82) lf_RX12_167 dX12_planPut_83) (kE_ic_1 dX12_planPut_86) (kOp_sub dX12_planPut_87)) ⟨fun _ => dX12_planPut_88, fun q => (by cases q), fun q => (by cases q)⟩))))))))
noncomputable def F_Md_planPut : kFn := kF 3 kI s_Md_planPut
theorem c_Md_planPut : kCon yX12_planPut cX12_planPut 3 (some .int) { frames := 1, cells := 0, slots := 0, locals := 21 } F_Md_planPut := kCon_of kEnds_I (by decide +kernel) (by decide) ⟨0, 0, 0, b_Md_planPut⟩
noncomputable def l_Md_isTaken_1 : kSx := sFor 4 (cC 2 (eI 3) (eI 2))
  (sIf (cAnd (cNot (cZ 1 (eAld 1 (eGet 12 18 (eR 0)) (eI 3)))) (cC 0 (eAld 0 (eGet 12 21 (eR 0)) (eI 3)) (eI 1))) (sRet 0 (eK (1))) sSkip)
  (sInc 3 (1))
noncomputable def s_Md_isTaken : kSx :=
  (sSeq (sTrunc 3 (sSeq (sLet 0 3 (eK (0))) l_Md_isTaken_1))
  (sRet 0 (eK (0))))
abbrev M_Md_isTaken : kM := (cX12_isTaken, yX12_isTaken.cls, 4, { frames := 0, cells := 0, slots := 0, locals := 0 }, (some .boolean))
set_option maxRecDepth 20000 in
theorem b_Md_isTaken : kSt M_Md_isTaken 0 0 0 0 s_Md_isTaken :=
  (kSt_seq (p1 := 34) (kSt_trunc (kSt_seq (kSt_let (kE_ic_0 dX12_isTaken_0) (kSet_istore_3 dX12_isTaken_1 (by decide))) (kSt_for (pu := 28) (pt := 7) (kCd_C (kE_iload_3 dX12_isTaken_2) (kE_iload_2 dX12_isTaken_3) (kJf_2 (tgt := 34) dX12_isTaken_4 (by decide))) (kSt_if (kCd_and (kCd_not (kCd_Z (kE_zald (kE_get (kE_aload_0 dX12_isTaken_7) lf_RX12_44 dX12_isTaken_8) (kE_iload_3 dX12_isTaken_11) dX12_isTaken_12) (kZt_1 (tgt := 28) dX12_isTaken_13 (by decide)))) (kCd_C (kE_iald (kE_get (kE_aload_0 dX12_isTaken_16) lf_RX12_53 dX12_isTaken_17) (kE_iload_3 dX12_isTaken_20) dX12_isTaken_21) (kE_iload_1 dX12_isTaken_22) (kJf_0 (tgt := 28) dX12_isTaken_23 (by decide)))) (kSt_ret (tag := 0) (kE_ic_1 dX12_isTaken_26) ⟨fun _ => dX12_isTaken_27, fun q => (by cases q), fun q => (by cases q)⟩) kSt_skip) (kSt_goto (tgt := 2) (kSt_inc dX12_isTaken_28 (by decide)) dX12_isTaken_31 (by decide)))))
  (kSt_ret (tag := 0) (kE_ic_0 dX12_isTaken_34) ⟨fun _ => dX12_isTaken_35, fun q => (by cases q), fun q => (by cases q)⟩))
noncomputable def F_Md_isTaken : kFn := kF 3 kZ s_Md_isTaken
theorem c_Md_isTaken : kCon yX12_isTaken cX12_isTaken 4 (some .boolean) { frames := 0, cells := 0, slots := 0, locals := 0 } F_Md_isTaken := kCon_of kEnds_Z (by decide +kernel) (by decide) ⟨0, 0, 0, b_Md_isTaken⟩
noncomputable def s_Md_planTake : kSx :=
  (sSeq (sPut 12 22 (eR 0) (eK (0)))
  (sSeq (sIf (cIf (cZ 3 (eI 1)) (cNot (cZ 1 (eCall 12 F_Md_isArc (eSnoc (eSnoc eNil (eR 0)) (eI 1))))) (cOr (cC 3 (eBin kSub (eK (-1)) (eI 1)) (eGet 12 17 (eR 0))) (cNot (cZ 1 (eAld 1 (eGet 12 18 (eR 0)) (eBin kSub (eK (-1)) (eI 1))))))) (sRet 0 (eCall 12 F_Md_fail (eSnoc (eSnoc eNil (eR 0)) (eK (1))))) sSkip)
  (sSeq (sIf (cZ 1 (eCall 12 F_Md_isTaken (eSnoc (eSnoc (eSnoc eNil (eR 0)) (eI 1)) (eGet 12 17 (eR 0))))) (sRet 0 (eCall 12 F_Md_fail (eSnoc (eSnoc eNil (eR 0)) (eK (2))))) sSkip)
  (sSeq (sIf (cC 0 (eGet 12 17 (eR 0)) (eK (60))) (sRet 0 (eCall 12 F_Md_fail (eSnoc (eSnoc eNil (eR 0)) (eK (3))))) sSkip)
  (sSeq (sAst 1 (eGet 12 18 (eR 0)) (eGet 12 17 (eR 0)) (eK (0)))
  (sSeq (sAst 0 (eGet 12 21 (eR 0)) (eGet 12 17 (eR 0)) (eI 1))
  (sSeq (sPutOp 12 17 (eR 0) kAdd (eK (1)))
  (sRet 0 (eBin kSub (eGet 12 17 (eR 0)) (eK (1)))))))))))
abbrev M_Md_planTake : kM := (cX12_planTake, yX12_planTake.cls, 2, { frames := 1, cells := 0, slots := 0, locals := 23 }, (some .int))
set_option maxRecDepth 20000 in
theorem b_Md_planTake : kSt M_Md_planTake 0 0 0 0 s_Md_planTake :=
  (kSt_seq (p1 := 5) (kSt_put (kE_aload_0 dX12_planTake_0) (kE_ic_0 dX12_planTake_1) lp_RX12_136 dX12_planTake_2)
  (kSt_seq (p1 := 47) (kSt_if (kCd_if (kCd_Z (kE_iload_1 dX12_planTake_5) (kZf_3 (tgt := 20) dX12_planTake_6 (by decide))) (kCd_gt (tgt := 41) (kCd_not (kCd_Z (kE_call (kEs_snoc (kEs_snoc kEs_nil (kE_aload_0 dX12_planTake_9)) (kE_iload_1 dX12_planTake_10)) dX12_planTake_11 c_Md_isArc mv_Md_isArc lm_RX12_200 ⟨rfl, rfl, by decide, by decide⟩ (by decide)) (kZt_1 (tgt := 47) dX12_planTake_14 (by decide)))) dX12_planTake_17 (by decide)) (kCd_or (kCd_C (kE_bin (kE_ic_m1 dX12_planTake_20) (kE_iload_1 dX12_planTake_21) (kOp_sub dX12_planTake_22)) (kE_get (kE_aload_0 dX12_planTake_23) lf_RX12_167 dX12_planTake_24) (kJt_3 (tgt := 41) dX12_planTake_27 (by decide))) (kCd_not (kCd_Z (kE_zald (kE_get (kE_aload_0 dX12_planTake_30) lf_RX12_44 dX12_planTake_31) (kE_bin (kE_ic_m1 dX12_planTake_34) (kE_iload_1 dX12_planTake_35) (kOp_sub dX12_planTake_36)) dX12_planTake_37) (kZt_1 (tgt := 47) dX12_planTake_38 (by decide)))))) (kSt_ret (tag := 0) (kE_call (kEs_snoc (kEs_snoc kEs_nil (kE_aload_0 dX12_planTake_41)) (kE_ic_1 dX12_planTake_42)) dX12_planTake_43 c_Md_fail mv_Md_fail lm_RX12_164 ⟨rfl, rfl, by decide, by decide⟩ (by decide)) ⟨fun _ => dX12_planTake_46, fun q => (by cases q), fun q => (by cases q)⟩) kSt_skip)
  (kSt_seq (p1 := 65) (kSt_if (kCd_Z (kE_call (kEs_snoc (kEs_snoc (kEs_snoc kEs_nil (kE_aload_0 dX12_planTake_47)) (kE_iload_1 dX12_planTake_48)) (kE_get (kE_aload_0 dX12_planTake_49) lf_RX12_167 dX12_planTake_50)) dX12_planTake_53 c_Md_isTaken mv_Md_isTaken lm_RX12_233 ⟨rfl, rfl, by decide, by decide⟩ (by decide)) (kZf_1 (tgt := 65) dX12_planTake_56 (by decide))) (kSt_ret (tag := 0) (kE_call (kEs_snoc (kEs_snoc kEs_nil (kE_aload_0 dX12_planTake_59)) (kE_ic_2 dX12_planTake_60)) dX12_planTake_61 c_Md_fail mv_Md_fail lm_RX12_164 ⟨rfl, rfl, by decide, by decide⟩ (by decide)) ⟨fun _ => dX12_planTake_64, fun q => (by cases q), fun q => (by cases q)⟩) kSt_skip)
  (kSt_seq (p1 := 80) (kSt_if (kCd_C (kE_get (kE_aload_0 dX12_planTake_65) lf_RX12_167 dX12_planTake_66) (kE_bipush dX12_planTake_69 (by rfl) ⟨by decide, by decide⟩) (kJf_0 (tgt := 80) dX12_planTake_71 (by decide))) (kSt_ret (tag := 0) (kE_call (kEs_snoc (kEs_snoc kEs_nil (kE_aload_0 dX12_planTake_74)) (kE_ic_3 dX12_planTake_75)) dX12_planTake_76 c_Md_fail mv_Md_fail lm_RX12_164 ⟨rfl, rfl, by decide, by decide⟩ (by decide)) ⟨fun _ => dX12_planTake_79, fun q => (by cases q), fun q => (by cases q)⟩) kSt_skip)
  (kSt_seq (p1 := 90) (kSt_zast (kE_get (kE_aload_0 dX12_planTake_80) lf_RX12_44 dX12_planTake_81) (kE_get (kE_aload_0 dX12_planTake_84) lf_RX12_167 dX12_planTake_85) (kE_ic_0 dX12_planTake_88) dX12_planTake_89)
  (kSt_seq (p1 := 100) (kSt_iast (kE_get (kE_aload_0 dX12_planTake_90) lf_RX12_53 dX12_planTake_91) (kE_get (kE_aload_0 dX12_planTake_94) lf_RX12_167 dX12_planTake_95) (kE_iload_1 dX12_planTake_98) dX12_planTake_99)
  (kSt_seq (p1 := 110) (kSt_putOp (kE_aload_0 dX12_planTake_100) dX12_planTake_101 lf_RX12_167 dX12_planTake_102 (kE_ic_1 dX12_planTake_105) (kOp_add dX12_planTake_106) lp_RX12_167 dX12_planTake_107)
  (kSt_ret (tag := 0) (kE_bin (kE_get (kE_aload_0 dX12_planTake_110) lf_RX12_167 dX12_planTake_111) (kE_ic_1 dX12_planTake_114) (kOp_sub dX12_planTake_115)) ⟨fun _ => dX12_planTake_116, fun q => (by cases q), fun q => (by cases q)⟩))))))))
noncomputable def F_Md_planTake : kFn := kF 2 kI s_Md_planTake
theorem c_Md_planTake : kCon yX12_planTake cX12_planTake 2 (some .int) { frames := 1, cells := 0, slots := 0, locals := 23 } F_Md_planTake := kCon_of kEnds_I (by decide +kernel) (by decide) ⟨0, 0, 0, b_Md_planTake⟩
noncomputable def l_Md_spread_1 : kSx := sFor 4 (cC 2 (eI 3) (eGet 12 44 (eR 0)))
  (sTrunc 4 (sSeq (sLet 0 4 (eAld 0 (eGet 12 45 (eR 0)) (eI 3)))
  (sSeq (sLet 0 5 (eAld 0 (eGet 12 46 (eR 0)) (eI 3)))
  (sIf (cAnd (cC 0 (eAld 0 (eGet 12 47 (eR 0)) (eI 4)) (eI 1)) (cC 0 (eAld 0 (eGet 12 47 (eR 0)) (eI 5)) (eK (-1)))) (sSeq (sAst 0 (eGet 12 47 (eR 0)) (eI 5) (eI 1))
  (sSeq (sAst 0 (eGet 12 26 (eR 0)) (eI 5) (eBin kSub (eK (1)) (eAld 0 (eGet 12 26 (eR 0)) (eI 4))))
  (sLet 0 2 (eK (1)))))
  (sIf (cAnd (cC 0 (eAld 0 (eGet 12 47 (eR 0)) (eI 5)) (eI 1)) (cC 0 (eAld 0 (eGet 12 47 (eR 0)) (eI 4)) (eK (-1)))) (sSeq (sAst 0 (eGet 12 47 (eR 0)) (eI 4) (eI 1))
  (sSeq (sAst 0 (eGet 12 26 (eR 0)) (eI 4) (eBin kSub (eK (1)) (eAld 0 (eGet 12 26 (eR 0)) (eI 5))))
  (sLet 0 2 (eK (1))))) sSkip)))))
  (sInc 3 (1))
noncomputable def l_Md_spread_2 : kSx := sFor 3 (cZ 1 (eI 2))
  (sSeq (sLet 0 2 (eK (0)))
  (sTrunc 3 (sSeq (sLet 0 3 (eK (0))) l_Md_spread_1)))
  sSkip
noncomputable def l_Md_spread_3 : kSx := sFor 4 (cC 2 (eI 3) (eGet 12 44 (eR 0)))
  (sIf (cAnd (cC 0 (eAld 0 (eGet 12 47 (eR 0)) (eAld 0 (eGet 12 45 (eR 0)) (eI 3))) (eI 1)) (cC 0 (eAld 0 (eGet 12 26 (eR 0)) (eAld 0 (eGet 12 45 (eR 0)) (eI 3))) (eAld 0 (eGet 12 26 (eR 0)) (eAld 0 (eGet 12 46 (eR 0)) (eI 3))))) (sAst 1 (eGet 12 49 (eR 0)) (eI 1) (eK (1))) sSkip)
  (sInc 3 (1))
noncomputable def s_Md_spread : kSx :=
  (sSeq (sSeq (sAst 0 (eGet 12 47 (eR 0)) (eI 1) (eI 1))
  (sSeq (sAst 0 (eGet 12 26 (eR 0)) (eI 1) (eK (0)))
  (sSeq (sLet 0 2 (eK (1)))
  (sSeq l_Md_spread_2
  (sTrunc 3 (sSeq (sLet 0 3 (eK (0))) l_Md_spread_3)))))) sRetV)
abbrev M_Md_spread : kM := (cX12_spread, yX12_spread.cls, 6, { frames := 0, cells := 0, slots := 0, locals := 0 }, none)
set_option maxRecDepth 20000 in
theorem b_Md_spread : kSt M_Md_spread 0 0 0 0 s_Md_spread :=
  (kSt_seq (kSt_seq (p1 := 7) (kSt_iast (kE_get (kE_aload_0 dX12_spread_0) lf_RX12_123 dX12_spread_1) (kE_iload_1 dX12_spread_4) (kE_iload_1 dX12_spread_5) dX12_spread_6)
  (kSt_seq (p1 := 14) (kSt_iast (kE_get (kE_aload_0 dX12_spread_7) lf_RX12_65 dX12_spread_8) (kE_iload_1 dX12_spread_11) (kE_ic_0 dX12_spread_12) dX12_spread_13)
  (kSt_seq (p1 := 16) (kSt_let (kE_ic_1 dX12_spread_14) (kSet_istore_2 dX12_spread_15 (by decide)))
  (kSt_seq (p1 := 156) (kSt_for (pu := 16) (pt := 20) (kCd_Z (kE_iload_2 dX12_spread_16) (kZf_1 (tgt := 156) dX12_spread_17 (by decide))) (kSt_goto (tgt := 16) (kSt_seq (p1 := 22) (kSt_let (kE_ic_0 dX12_spread_20) (kSet_istore_2 dX12_spread_21 (by decide)))
  (kSt_trunc (kSt_seq (kSt_let (kE_ic_0 dX12_spread_22) (kSet_istore_3 dX12_spread_23 (by decide))) (kSt_for (pu := 147) (pt := 32) (kCd_C (kE_iload_3 dX12_spread_24) (kE_get (kE_aload_0 dX12_spread_25) lf_RX12_237 dX12_spread_26) (kJf_2 (tgt := 153) dX12_spread_29 (by decide))) (kSt_trunc (kSt_seq (p1 := 40) (kSt_let (kE_iald (kE_get (kE_aload_0 dX12_spread_32) lf_RX12_117 dX12_spread_33) (kE_iload_3 dX12_spread_36) dX12_spread_37) (kSet_istore dX12_spread_38 (by decide)))
  (kSt_seq (p1 := 48) (kSt_let (kE_iald (kE_get (kE_aload_0 dX12_spread_40) lf_RX12_120 dX12_spread_41) (kE_iload_3 dX12_spread_44) dX12_spread_45) (kSet_istore dX12_spread_46 (by decide)))
  (kSt_if (kCd_and (kCd_C (kE_iald (kE_get (kE_aload_0 dX12_spread_48) lf_RX12_123 dX12_spread_49) (kE_iload dX12_spread_52) dX12_spread_54) (kE_iload_1 dX12_spread_55) (kJf_0 (tgt := 99) dX12_spread_56 (by decide))) (kCd_C (kE_iald (kE_get (kE_aload_0 dX12_spread_59) lf_RX12_123 dX12_spread_60) (kE_iload dX12_spread_63) dX12_spread_65) (kE_ic_m1 dX12_spread_66) (kJf_0 (tgt := 99) dX12_spread_67 (by decide)))) (kSt_goto (tgt := 147) (kSt_seq (p1 := 78) (kSt_iast (kE_get (kE_aload_0 dX12_spread_70) lf_RX12_123 dX12_spread_71) (kE_iload dX12_spread_74) (kE_iload_1 dX12_spread_76) dX12_spread_77)
  (kSt_seq (p1 := 94) (kSt_iast (kE_get (kE_aload_0 dX12_spread_78) lf_RX12_65 dX12_spread_79) (kE_iload dX12_spread_82) (kE_bin (kE_ic_1 dX12_spread_84) (kE_iald (kE_get (kE_aload_0 dX12_spread_85) lf_RX12_65 dX12_spread_86) (kE_iload dX12_spread_89) dX12_spread_91) (kOp_sub dX12_spread_92)) dX12_spread_93)
  (kSt_let (kE_ic_1 dX12_spread_94) (kSet_istore_2 dX12_spread_95 (by decide))))) dX12_spread_96 (by decide))
  (kSt_if (kCd_and (kCd_C (kE_iald (kE_get (kE_aload_0 dX12_spread_99) lf_RX12_123 dX12_spread_100) (kE_iload dX12_spread_103) dX12_spread_105) (kE_iload_1 dX12_spread_106) (kJf_0 (tgt := 147) dX12_spread_107 (by decide))) (kCd_C (kE_iald (kE_get (kE_aload_0 dX12_spread_110) lf_RX12_123 dX12_spread_111) (kE_iload dX12_spread_114) dX12_spread_116) (kE_ic_m1 dX12_spread_117) (kJf_0 (tgt := 147) dX12_spread_118 (by decide)))) (kSt_seq (p1 := 129) (kSt_iast (kE_get (kE_aload_0 dX12_spread_121) lf_RX12_123 dX12_spread_122) (kE_iload dX12_spread_125) (kE_iload_1 dX12_spread_127) dX12_spread_128)
  (kSt_seq (p1 := 145) (kSt_iast (kE_get (kE_aload_0 dX12_spread_129) lf_RX12_65 dX12_spread_130) (kE_iload dX12_spread_133) (kE_bin (kE_ic_1 dX12_spread_135) (kE_iald (kE_get (kE_aload_0 dX12_spread_136) lf_RX12_65 dX12_spread_137) (kE_iload dX12_spread_140) dX12_spread_142) (kOp_sub dX12_spread_143)) dX12_spread_144)
  (kSt_let (kE_ic_1 dX12_spread_145) (kSet_istore_2 dX12_spread_146 (by decide))))) kSt_skip))))) (kSt_goto (tgt := 24) (kSt_inc dX12_spread_147 (by decide)) dX12_spread_150 (by decide)))))) dX12_spread_153 (by decide)) kSt_skip)
  (kSt_trunc (kSt_seq (kSt_let (kE_ic_0 dX12_spread_156) (kSet_istore_3 dX12_spread_157 (by decide))) (kSt_for (pu := 213) (pt := 166) (kCd_C (kE_iload_3 dX12_spread_158) (kE_get (kE_aload_0 dX12_spread_159) lf_RX12_237 dX12_spread_160) (kJf_2 (tgt := 219) dX12_spread_163 (by decide))) (kSt_if (kCd_and (kCd_C (kE_iald (kE_get (kE_aload_0 dX12_spread_166) lf_RX12_123 dX12_spread_167) (kE_iald (kE_get (kE_aload_0 dX12_spread_170) lf_RX12_117 dX12_spread_171) (kE_iload_3 dX12_spread_174) dX12_spread_175) dX12_spread_176) (kE_iload_1 dX12_spread_177) (kJf_0 (tgt := 213) dX12_spread_178 (by decide))) (kCd_C (kE_iald (kE_get (kE_aload_0 dX12_spread_181) lf_RX12_65 dX12_spread_182) (kE_iald (kE_get (kE_aload_0 dX12_spread_185) lf_RX12_117 dX12_spread_186) (kE_iload_3 dX12_spread_189) dX12_spread_190) dX12_spread_191) (kE_iald (kE_get (kE_aload_0 dX12_spread_192) lf_RX12_65 dX12_spread_193) (kE_iald (kE_get (kE_aload_0 dX12_spread_196) lf_RX12_120 dX12_spread_197) (kE_iload_3 dX12_spread_200) dX12_spread_201) dX12_spread_202) (kJf_0 (tgt := 213) dX12_spread_203 (by decide)))) (kSt_zast (kE_get (kE_aload_0 dX12_spread_206) lf_RX12_129 dX12_spread_207) (kE_iload_1 dX12_spread_210) (kE_ic_1 dX12_spread_211) dX12_spread_212) kSt_skip) (kSt_goto (tgt := 158) (kSt_inc dX12_spread_213 (by decide)) dX12_spread_216 (by decide))))))))) (kSt_retV dX12_spread_219))
noncomputable def F_Md_spread : kFn := kF 2 kN s_Md_spread
theorem c_Md_spread : kCon yX12_spread cX12_spread 6 none { frames := 0, cells := 0, slots := 0, locals := 0 } F_Md_spread := kCon_of kEnds_V (by decide +kernel) (by decide) ⟨0, 0, 0, b_Md_spread⟩
noncomputable def l_Md_plan_1 : kSx := sFor 3 (cC 2 (eI 2) (eGet 12 10 (eR 0)))
  (sIf (cNot (cZ 1 (eCall 12 F_Md_isTaken (eSnoc (eSnoc (eSnoc eNil (eR 0)) (eAld 0 (eGet 12 11 (eR 0)) (eI 2))) (eI 1))))) (sSeq (sAst 0 (eGet 12 45 (eR 0)) (eGet 12 44 (eR 0)) (eAld 0 (eGet 12 4 (eR 0)) (eAld 0 (eGet 12 11 (eR 0)) (eI 2))))
  (sSeq (sAst 0 (eGet 12 46 (eR 0)) (eGet 12 44 (eR 0)) (eAld 0 (eGet 12 5 (eR 0)) (eAld 0 (eGet 12 11 (eR 0)) (eI 2))))
  (sPutOp 12 44 (eR 0) kAdd (eK (1))))) sSkip)
  (sInc 2 (1))
noncomputable def l_Md_plan_2 : kSx := sFor 3 (cC 2 (eI 2) (eI 1))
  (sIf (cAnd (cZ 1 (eAld 1 (eGet 12 18 (eR 0)) (eI 2))) (cNot (cZ 1 (eCall 12 F_Md_isTaken (eSnoc (eSnoc (eSnoc eNil (eR 0)) (eBin kSub (eK (-1)) (eI 2))) (eI 1)))))) (sSeq (sAst 0 (eGet 12 45 (eR 0)) (eGet 12 44 (eR 0)) (eAld 0 (eGet 12 19 (eR 0)) (eI 2)))
  (sSeq (sAst 0 (eGet 12 46 (eR 0)) (eGet 12 44 (eR 0)) (eAld 0 (eGet 12 20 (eR 0)) (eI 2)))
  (sPutOp 12 44 (eR 0) kAdd (eK (1))))) sSkip)
  (sInc 2 (1))
noncomputable def l_Md_plan_3 : kSx := sFor 3 (cC 2 (eI 2) (eGet 12 1 (eR 0)))
  (sSeq (sAst 0 (eGet 12 47 (eR 0)) (eI 2) (eK (-1)))
  (sAst 1 (eGet 12 49 (eR 0)) (eI 2) (eK (0))))
  (sInc 2 (1))
noncomputable def l_Md_plan_4 : kSx := sFor 3 (cC 2 (eI 2) (eGet 12 1 (eR 0)))
  (sIf (cC 0 (eAld 0 (eGet 12 47 (eR 0)) (eI 2)) (eK (-1))) (sCall 12 F_Md_spread (eSnoc (eSnoc eNil (eR 0)) (eI 2))) sSkip)
  (sInc 2 (1))
noncomputable def s_Md_plan : kSx :=
  (sSeq (sSeq (sPut 12 44 (eR 0) (eK (0)))
  (sSeq (sTrunc 2 (sSeq (sLet 0 2 (eK (0))) l_Md_plan_1))
  (sSeq (sTrunc 2 (sSeq (sLet 0 2 (eK (0))) l_Md_plan_2))
  (sSeq (sTrunc 2 (sSeq (sLet 0 2 (eK (0))) l_Md_plan_3))
  (sTrunc 2 (sSeq (sLet 0 2 (eK (0))) l_Md_plan_4)))))) sRetV)
abbrev M_Md_plan : kM := (cX12_plan, yX12_plan.cls, 3, { frames := 1, cells := 0, slots := 0, locals := 25 }, none)
set_option maxRecDepth 20000 in
theorem b_Md_plan : kSt M_Md_plan 0 0 0 0 s_Md_plan :=
  (kSt_seq (kSt_seq (p1 := 5) (kSt_put (kE_aload_0 dX12_plan_0) (kE_ic_0 dX12_plan_1) lp_RX12_237 dX12_plan_2)
  (kSt_seq (p1 := 85) (kSt_trunc (kSt_seq (kSt_let (kE_ic_0 dX12_plan_5) (kSet_istore_2 dX12_plan_6 (by decide))) (kSt_for (pu := 79) (pt := 15) (kCd_C (kE_iload_2 dX12_plan_7) (kE_get (kE_aload_0 dX12_plan_8) lf_RX12_146 dX12_plan_9) (kJf_2 (tgt := 85) dX12_plan_12 (by decide))) (kSt_if (kCd_not (kCd_Z (kE_call (kEs_snoc (kEs_snoc (kEs_snoc kEs_nil (kE_aload_0 dX12_plan_15)) (kE_iald (kE_get (kE_aload_0 dX12_plan_16) lf_RX12_32 dX12_plan_17) (kE_iload_2 dX12_plan_20) dX12_plan_21)) (kE_iload_1 dX12_plan_22)) dX12_plan_23 c_Md_isTaken mv_Md_isTaken lm_RX12_233 ⟨rfl, rfl, by decide, by decide⟩ (by decide)) (kZt_1 (tgt := 79) dX12_plan_26 (by decide)))) (kSt_seq (p1 := 49) (kSt_iast (kE_get (kE_aload_0 dX12_plan_29) lf_RX12_117 dX12_plan_30) (kE_get (kE_aload_0 dX12_plan_33) lf_RX12_237 dX12_plan_34) (kE_iald (kE_get (kE_aload_0 dX12_plan_37) lf_RX12_13 dX12_plan_38) (kE_iald (kE_get (kE_aload_0 dX12_plan_41) lf_RX12_32 dX12_plan_42) (kE_iload_2 dX12_plan_45) dX12_plan_46) dX12_plan_47) dX12_plan_48)
  (kSt_seq (p1 := 69) (kSt_iast (kE_get (kE_aload_0 dX12_plan_49) lf_RX12_120 dX12_plan_50) (kE_get (kE_aload_0 dX12_plan_53) lf_RX12_237 dX12_plan_54) (kE_iald (kE_get (kE_aload_0 dX12_plan_57) lf_RX12_16 dX12_plan_58) (kE_iald (kE_get (kE_aload_0 dX12_plan_61) lf_RX12_32 dX12_plan_62) (kE_iload_2 dX12_plan_65) dX12_plan_66) dX12_plan_67) dX12_plan_68)
  (kSt_putOp (kE_aload_0 dX12_plan_69) dX12_plan_70 lf_RX12_237 dX12_plan_71 (kE_ic_1 dX12_plan_74) (kOp_add dX12_plan_75) lp_RX12_237 dX12_plan_76))) kSt_skip) (kSt_goto (tgt := 7) (kSt_inc dX12_plan_79 (by decide)) dX12_plan_82 (by decide)))))
  (kSt_seq (p1 := 158) (kSt_trunc (kSt_seq (kSt_let (kE_ic_0 dX12_plan_85) (kSet_istore_2 dX12_plan_86 (by decide))) (kSt_for (pu := 152) (pt := 92) (kCd_C (kE_iload_2 dX12_plan_87) (kE_iload_1 dX12_plan_88) (kJf_2 (tgt := 158) dX12_plan_89 (by decide))) (kSt_if (kCd_and (kCd_Z (kE_zald (kE_get (kE_aload_0 dX12_plan_92) lf_RX12_44 dX12_plan_93) (kE_iload_2 dX12_plan_96) dX12_plan_97) (kZf_1 (tgt := 152) dX12_plan_98 (by decide))) (kCd_not (kCd_Z (kE_call (kEs_snoc (kEs_snoc (kEs_snoc kEs_nil (kE_aload_0 dX12_plan_101)) (kE_bin (kE_ic_m1 dX12_plan_102) (kE_iload_2 dX12_plan_103) (kOp_sub dX12_plan_104))) (kE_iload_1 dX12_plan_105)) dX12_plan_106 c_Md_isTaken mv_Md_isTaken lm_RX12_233 ⟨rfl, rfl, by decide, by decide⟩ (by decide)) (kZt_1 (tgt := 152) dX12_plan_109 (by decide))))) (kSt_seq (p1 := 127) (kSt_iast (kE_get (kE_aload_0 dX12_plan_112) lf_RX12_117 dX12_plan_113) (kE_get (kE_aload_0 dX12_plan_116) lf_RX12_237 dX12_plan_117) (kE_iald (kE_get (kE_aload_0 dX12_plan_120) lf_RX12_47 dX12_plan_121) (kE_iload_2 dX12_plan_124) dX12_plan_125) dX12_plan_126)
  (kSt_seq (p1 := 142) (kSt_iast (kE_get (kE_aload_0 dX12_plan_127) lf_RX12_120 dX12_plan_128) (kE_get (kE_aload_0 dX12_plan_131) lf_RX12_237 dX12_plan_132) (kE_iald (kE_get (kE_aload_0 dX12_plan_135) lf_RX12_50 dX12_plan_136) (kE_iload_2 dX12_plan_139) dX12_plan_140) dX12_plan_141)
  (kSt_putOp (kE_aload_0 dX12_plan_142) dX12_plan_143 lf_RX12_237 dX12_plan_144 (kE_ic_1 dX12_plan_147) (kOp_add dX12_plan_148) lp_RX12_237 dX12_plan_149))) kSt_skip) (kSt_goto (tgt := 87) (kSt_inc dX12_plan_152 (by decide)) dX12_plan_155 (by decide)))))
  (kSt_seq (p1 := 188) (kSt_trunc (kSt_seq (kSt_let (kE_ic_0 dX12_plan_158) (kSet_istore_2 dX12_plan_159 (by decide))) (kSt_for (pu := 182) (pt := 168) (kCd_C (kE_iload_2 dX12_plan_160) (kE_get (kE_aload_0 dX12_plan_161) lf_RX12_140 dX12_plan_162) (kJf_2 (tgt := 188) dX12_plan_165 (by decide))) (kSt_seq (p1 := 175) (kSt_iast (kE_get (kE_aload_0 dX12_plan_168) lf_RX12_123 dX12_plan_169) (kE_iload_2 dX12_plan_172) (kE_ic_m1 dX12_plan_173) dX12_plan_174)
  (kSt_zast (kE_get (kE_aload_0 dX12_plan_175) lf_RX12_129 dX12_plan_176) (kE_iload_2 dX12_plan_179) (kE_ic_0 dX12_plan_180) dX12_plan_181)) (kSt_goto (tgt := 160) (kSt_inc dX12_plan_182 (by decide)) dX12_plan_185 (by decide)))))
  (kSt_trunc (kSt_seq (kSt_let (kE_ic_0 dX12_plan_188) (kSet_istore_2 dX12_plan_189 (by decide))) (kSt_for (pu := 213) (pt := 198) (kCd_C (kE_iload_2 dX12_plan_190) (kE_get (kE_aload_0 dX12_plan_191) lf_RX12_140 dX12_plan_192) (kJf_2 (tgt := 219) dX12_plan_195 (by decide))) (kSt_if (kCd_C (kE_iald (kE_get (kE_aload_0 dX12_plan_198) lf_RX12_123 dX12_plan_199) (kE_iload_2 dX12_plan_202) dX12_plan_203) (kE_ic_m1 dX12_plan_204) (kJf_0 (tgt := 213) dX12_plan_205 (by decide))) (kSt_call (kEs_snoc (kEs_snoc kEs_nil (kE_aload_0 dX12_plan_208)) (kE_iload_2 dX12_plan_209)) dX12_plan_210 c_Md_spread mv_Md_spread lm_RX12_240 ⟨rfl, rfl, by decide, by decide⟩) kSt_skip) (kSt_goto (tgt := 190) (kSt_inc dX12_plan_213 (by decide)) dX12_plan_216 (by decide))))))))) (kSt_retV dX12_plan_219))
noncomputable def F_Md_plan : kFn := kF 2 kN s_Md_plan
theorem c_Md_plan : kCon yX12_plan cX12_plan 3 none { frames := 1, cells := 0, slots := 0, locals := 25 } F_Md_plan := kCon_of kEnds_V (by decide +kernel) (by decide) ⟨0, 0, 0, b_Md_plan⟩
noncomputable def l_Md_later_1 : kSx := sFor 7 (cC 2 (eI 6) (eGet 12 1 (eR 0)))
  (sAst 0 (eGet 12 48 (eR 0)) (eI 6) (eK (0)))
  (sInc 6 (1))
noncomputable def l_Md_later_2 : kSx := sFor 7 (cC 2 (eI 6) (eGet 12 1 (eR 0)))
  (sSeq (sAstOp (eGet 12 48 (eR 0)) (eAld 0 (eGet 12 47 (eR 0)) (eI 6)) kAdd (eK (1)))
  (sSeq (sLet 0 5 (eIf (cC 4 (eAld 0 (eGet 12 48 (eR 0)) (eAld 0 (eGet 12 47 (eR 0)) (eI 6))) (eI 5)) (eAld 0 (eGet 12 48 (eR 0)) (eAld 0 (eGet 12 47 (eR 0)) (eI 6))) (eI 5)))
  (sSeq (sLet 0 3 (eBin kAdd (eI 3) (eIf (cC 0 (eAld 0 (eGet 12 47 (eR 0)) (eI 6)) (eI 6)) (eK (1)) (eK (0)))))
  (sLet 0 4 (eBin kAdd (eI 4) (eIf (cAnd (cC 0 (eAld 0 (eGet 12 47 (eR 0)) (eI 6)) (eI 6)) (cNot (cZ 1 (eAld 1 (eGet 12 49 (eR 0)) (eI 6))))) (eK (1)) (eK (0))))))))
  (sInc 6 (1))
noncomputable def s_Md_later : kSx :=
  (sSeq (sPut 12 22 (eR 0) (eK (0)))
  (sSeq (sIf (cOr (cZ 2 (eI 1)) (cC 4 (eI 1) (eGet 12 17 (eR 0)))) (sRet 0 (eCall 12 F_Md_fail (eSnoc (eSnoc eNil (eR 0)) (eK (1))))) sSkip)
  (sSeq (sIf (cOr (cZ 2 (eI 2)) (cC 4 (eI 2) (eK (3)))) (sRet 0 (eCall 12 F_Md_fail (eSnoc (eSnoc eNil (eR 0)) (eK (2))))) sSkip)
  (sSeq (sCall 12 F_Md_plan (eSnoc (eSnoc eNil (eR 0)) (eI 1)))
  (sSeq (sLet 0 3 (eK (0)))
  (sSeq (sLet 0 4 (eK (0)))
  (sSeq (sLet 0 5 (eK (0)))
  (sSeq (sTrunc 6 (sSeq (sLet 0 6 (eK (0))) l_Md_later_1))
  (sSeq (sTrunc 6 (sSeq (sLet 0 6 (eK (0))) l_Md_later_2))
  (sRet 0 (eIf (cZ 0 (eI 2)) (eI 3) (eIf (cC 0 (eI 2) (eK (1))) (eI 4) (eIf (cC 0 (eI 2) (eK (2))) (eI 5) (eGet 12 44 (eR 0)))))))))))))))
abbrev M_Md_later : kM := (cX12_later, yX12_later.cls, 7, { frames := 2, cells := 0, slots := 0, locals := 47 }, (some .int))
set_option maxRecDepth 20000 in
theorem b_Md_later : kSt M_Md_later 0 0 0 0 s_Md_later :=
  (kSt_seq (p1 := 5) (kSt_put (kE_aload_0 dX12_later_0) (kE_ic_0 dX12_later_1) lp_RX12_136 dX12_later_2)
  (kSt_seq (p1 := 23) (kSt_if (kCd_or (kCd_Z (kE_iload_1 dX12_later_5) (kZt_2 (tgt := 17) dX12_later_6 (by decide))) (kCd_C (kE_iload_1 dX12_later_9) (kE_get (kE_aload_0 dX12_later_10) lf_RX12_167 dX12_later_11) (kJf_4 (tgt := 23) dX12_later_14 (by decide)))) (kSt_ret (tag := 0) (kE_call (kEs_snoc (kEs_snoc kEs_nil (kE_aload_0 dX12_later_17)) (kE_ic_1 dX12_later_18)) dX12_later_19 c_Md_fail mv_Md_fail lm_RX12_164 ⟨rfl, rfl, by decide, by decide⟩ (by decide)) ⟨fun _ => dX12_later_22, fun q => (by cases q), fun q => (by cases q)⟩) kSt_skip)
  (kSt_seq (p1 := 38) (kSt_if (kCd_or (kCd_Z (kE_iload_2 dX12_later_23) (kZt_2 (tgt := 32) dX12_later_24 (by decide))) (kCd_C (kE_iload_2 dX12_later_27) (kE_ic_3 dX12_later_28) (kJf_4 (tgt := 38) dX12_later_29 (by decide)))) (kSt_ret (tag := 0) (kE_call (kEs_snoc (kEs_snoc kEs_nil (kE_aload_0 dX12_later_32)) (kE_ic_2 dX12_later_33)) dX12_later_34 c_Md_fail mv_Md_fail lm_RX12_164 ⟨rfl, rfl, by decide, by decide⟩ (by decide)) ⟨fun _ => dX12_later_37, fun q => (by cases q), fun q => (by cases q)⟩) kSt_skip)
  (kSt_seq (p1 := 43) (kSt_call (kEs_snoc (kEs_snoc kEs_nil (kE_aload_0 dX12_later_38)) (kE_iload_1 dX12_later_39)) dX12_later_40 c_Md_plan mv_Md_plan lm_RX12_243 ⟨rfl, rfl, by decide, by decide⟩)
  (kSt_seq (p1 := 45) (kSt_let (kE_ic_0 dX12_later_43) (kSet_istore_3 dX12_later_44 (by decide)))
  (kSt_seq (p1 := 48) (kSt_let (kE_ic_0 dX12_later_45) (kSet_istore dX12_later_46 (by decide)))
  (kSt_seq (p1 := 51) (kSt_let (kE_ic_0 dX12_later_48) (kSet_istore dX12_later_49 (by decide)))
  (kSt_seq (p1 := 77) (kSt_trunc (kSt_seq (kSt_let (kE_ic_0 dX12_later_51) (kSet_istore dX12_later_52 (by decide))) (kSt_for (pu := 71) (pt := 63) (kCd_C (kE_iload dX12_later_54) (kE_get (kE_aload_0 dX12_later_56) lf_RX12_140 dX12_later_57) (kJf_2 (tgt := 77) dX12_later_60 (by decide))) (kSt_iast (kE_get (kE_aload_0 dX12_later_63) lf_RX12_126 dX12_later_64) (kE_iload dX12_later_67) (kE_ic_0 dX12_later_69) dX12_later_70) (kSt_goto (tgt := 54) (kSt_inc dX12_later_71 (by decide)) dX12_later_74 (by decide)))))
  (kSt_seq (p1 := 199) (kSt_trunc (kSt_seq (kSt_let (kE_ic_0 dX12_later_77) (kSet_istore dX12_later_78 (by decide))) (kSt_for (pu := 193) (pt := 89) (kCd_C (kE_iload dX12_later_80) (kE_get (kE_aload_0 dX12_later_82) lf_RX12_140 dX12_later_83) (kJf_2 (tgt := 199) dX12_later_86 (by decide))) (kSt_seq (p1 := 105) (kSt_iastOp (kE_get (kE_aload_0 dX12_later_89) lf_RX12_126 dX12_later_90) (kE_iald (kE_get (kE_aload_0 dX12_later_93) lf_RX12_123 dX12_later_94) (kE_iload dX12_later_97) dX12_later_99) dX12_later_100 dX12_later_101 (kE_ic_1 dX12_later_102) (kOp_add dX12_later_103) dX12_later_104)
  (kSt_seq (p1 := 141) (kSt_let (kE_if (kCd_C (kE_iald (kE_get (kE_aload_0 dX12_later_105) lf_RX12_126 dX12_later_106) (kE_iald (kE_get (kE_aload_0 dX12_later_109) lf_RX12_123 dX12_later_110) (kE_iload dX12_later_113) dX12_later_115) dX12_later_116) (kE_iload dX12_later_117) (kJf_4 (tgt := 137) dX12_later_119 (by decide))) (kE_goto (tgt := 139) (kE_iald (kE_get (kE_aload_0 dX12_later_122) lf_RX12_126 dX12_later_123) (kE_iald (kE_get (kE_aload_0 dX12_later_126) lf_RX12_123 dX12_later_127) (kE_iload dX12_later_130) dX12_later_132) dX12_later_133) dX12_later_134 (by decide)) (kE_iload dX12_later_137)) (kSet_istore dX12_later_139 (by decide)))
  (kSt_seq (p1 := 161) (kSt_let (kE_bin (kE_iload_3 dX12_later_141) (kE_if (kCd_C (kE_iald (kE_get (kE_aload_0 dX12_later_142) lf_RX12_123 dX12_later_143) (kE_iload dX12_later_146) dX12_later_148) (kE_iload dX12_later_149) (kJf_0 (tgt := 158) dX12_later_151 (by decide))) (kE_goto (tgt := 159) (kE_ic_1 dX12_later_154) dX12_later_155 (by decide)) (kE_ic_0 dX12_later_158)) (kOp_add dX12_later_159)) (kSet_istore_3 dX12_later_160 (by decide)))
  (kSt_let (kE_bin (kE_iload dX12_later_161) (kE_if (kCd_and (kCd_C (kE_iald (kE_get (kE_aload_0 dX12_later_163) lf_RX12_123 dX12_later_164) (kE_iload dX12_later_167) dX12_later_169) (kE_iload dX12_later_170) (kJf_0 (tgt := 189) dX12_later_172 (by decide))) (kCd_not (kCd_Z (kE_zald (kE_get (kE_aload_0 dX12_later_175) lf_RX12_129 dX12_later_176) (kE_iload dX12_later_179) dX12_later_181) (kZt_1 (tgt := 189) dX12_later_182 (by decide))))) (kE_goto (tgt := 190) (kE_ic_1 dX12_later_185) dX12_later_186 (by decide)) (kE_ic_0 dX12_later_189)) (kOp_add dX12_later_190)) (kSet_istore dX12_later_191 (by decide)))))) (kSt_goto (tgt := 80) (kSt_inc dX12_later_193 (by decide)) dX12_later_196 (by decide)))))
  (kSt_ret (tag := 0) (kE_if (kCd_Z (kE_iload_2 dX12_later_199) (kZf_0 (tgt := 207) dX12_later_200 (by decide))) (kE_goto (tgt := 231) (kE_iload_3 dX12_later_203) dX12_later_204 (by decide)) (kE_if (kCd_C (kE_iload_2 dX12_later_207) (kE_ic_1 dX12_later_208) (kJf_0 (tgt := 217) dX12_later_209 (by decide))) (kE_goto (tgt := 231) (kE_iload dX12_later_212) dX12_later_214 (by decide)) (kE_if (kCd_C (kE_iload_2 dX12_later_217) (kE_ic_2 dX12_later_218) (kJf_0 (tgt := 227) dX12_later_219 (by decide))) (kE_goto (tgt := 231) (kE_iload dX12_later_222) dX12_later_224 (by decide)) (kE_get (kE_aload_0 dX12_later_227) lf_RX12_237 dX12_later_228)))) ⟨fun _ => dX12_later_231, fun q => (by cases q), fun q => (by cases q)⟩))))))))))
noncomputable def F_Md_later : kFn := kF 3 kI s_Md_later
theorem c_Md_later : kCon yX12_later cX12_later 7 (some .int) { frames := 2, cells := 0, slots := 0, locals := 47 } F_Md_later := kCon_of kEnds_I (by decide +kernel) (by decide) ⟨0, 0, 0, b_Md_later⟩
noncomputable def s_Md_laterJoined : kSx :=
  (sSeq (sPut 12 22 (eR 0) (eK (0)))
  (sSeq (sIf (cOr (cOr (cOr (cZ 2 (eI 1)) (cC 4 (eI 1) (eGet 12 17 (eR 0)))) (cNot (cZ 1 (eCall 12 F_Md_isNode (eSnoc (eSnoc eNil (eR 0)) (eI 2)))))) (cNot (cZ 1 (eCall 12 F_Md_isNode (eSnoc (eSnoc eNil (eR 0)) (eI 3)))))) (sRet 0 (eIf (cZ 4 (eCall 12 F_Md_fail (eSnoc (eSnoc eNil (eR 0)) (eK (1))))) (eK (1)) (eK (0)))) sSkip)
  (sSeq (sCall 12 F_Md_plan (eSnoc (eSnoc eNil (eR 0)) (eI 1)))
  (sRet 0 (eIf (cC 0 (eAld 0 (eGet 12 47 (eR 0)) (eI 2)) (eAld 0 (eGet 12 47 (eR 0)) (eI 3))) (eK (1)) (eK (0)))))))
abbrev M_Md_laterJoined : kM := (cX12_laterJoined, yX12_laterJoined.cls, 4, { frames := 2, cells := 0, slots := 0, locals := 47 }, (some .boolean))
set_option maxRecDepth 20000 in
theorem b_Md_laterJoined : kSt M_Md_laterJoined 0 0 0 0 s_Md_laterJoined :=
  (kSt_seq (p1 := 5) (kSt_put (kE_aload_0 dX12_laterJoined_0) (kE_ic_0 dX12_laterJoined_1) lp_RX12_136 dX12_laterJoined_2)
  (kSt_seq (p1 := 47) (kSt_if (kCd_or (kCd_or (kCd_or (kCd_Z (kE_iload_1 dX12_laterJoined_5) (kZt_2 (tgt := 33) dX12_laterJoined_6 (by decide))) (kCd_C (kE_iload_1 dX12_laterJoined_9) (kE_get (kE_aload_0 dX12_laterJoined_10) lf_RX12_167 dX12_laterJoined_11) (kJt_4 (tgt := 33) dX12_laterJoined_14 (by decide)))) (kCd_not (kCd_Z (kE_call (kEs_snoc (kEs_snoc kEs_nil (kE_aload_0 dX12_laterJoined_17)) (kE_iload_2 dX12_laterJoined_18)) dX12_laterJoined_19 c_Md_isNode mv_Md_isNode lm_RX12_176 ⟨rfl, rfl, by decide, by decide⟩ (by decide)) (kZf_1 (tgt := 33) dX12_laterJoined_22 (by decide))))) (kCd_not (kCd_Z (kE_call (kEs_snoc (kEs_snoc kEs_nil (kE_aload_0 dX12_laterJoined_25)) (kE_iload_3 dX12_laterJoined_26)) dX12_laterJoined_27 c_Md_isNode mv_Md_isNode lm_RX12_176 ⟨rfl, rfl, by decide, by decide⟩ (by decide)) (kZt_1 (tgt := 47) dX12_laterJoined_30 (by decide))))) (kSt_ret (tag := 0) (kE_if (kCd_Z (kE_call (kEs_snoc (kEs_snoc kEs_nil (kE_aload_0 dX12_laterJoined_33)) (kE_ic_1 dX12_laterJoined_34)) dX12_laterJoined_35 c_Md_fail mv_Md_fail lm_RX12_164 ⟨rfl, rfl, by decide, by decide⟩ (by decide)) (kZf_4 (tgt := 45) dX12_laterJoined_38 (by decide))) (kE_goto (tgt := 46) (kE_ic_1 dX12_laterJoined_41) dX12_laterJoined_42 (by decide)) (kE_ic_0 dX12_laterJoined_45)) ⟨fun _ => dX12_laterJoined_46, fun q => (by cases q), fun q => (by cases q)⟩) kSt_skip)
  (kSt_seq (p1 := 52) (kSt_call (kEs_snoc (kEs_snoc kEs_nil (kE_aload_0 dX12_laterJoined_47)) (kE_iload_1 dX12_laterJoined_48)) dX12_laterJoined_49 c_Md_plan mv_Md_plan lm_RX12_243 ⟨rfl, rfl, by decide, by decide⟩)
  (kSt_ret (tag := 0) (kE_if (kCd_C (kE_iald (kE_get (kE_aload_0 dX12_laterJoined_52) lf_RX12_123 dX12_laterJoined_53) (kE_iload_2 dX12_laterJoined_56) dX12_laterJoined_57) (kE_iald (kE_get (kE_aload_0 dX12_laterJoined_58) lf_RX12_123 dX12_laterJoined_59) (kE_iload_3 dX12_laterJoined_62) dX12_laterJoined_63) (kJf_0 (tgt := 71) dX12_laterJoined_64 (by decide))) (kE_goto (tgt := 72) (kE_ic_1 dX12_laterJoined_67) dX12_laterJoined_68 (by decide)) (kE_ic_0 dX12_laterJoined_71)) ⟨fun _ => dX12_laterJoined_72, fun q => (by cases q), fun q => (by cases q)⟩))))
noncomputable def F_Md_laterJoined : kFn := kF 4 kZ s_Md_laterJoined
theorem c_Md_laterJoined : kCon yX12_laterJoined cX12_laterJoined 4 (some .boolean) { frames := 2, cells := 0, slots := 0, locals := 47 } F_Md_laterJoined := kCon_of kEnds_Z (by decide +kernel) (by decide) ⟨0, 0, 0, b_Md_laterJoined⟩
noncomputable def s_Md_drop : kSx :=
  (sSeq (sPut 12 22 (eR 0) (eK (0)))
  (sSeq (sLet 0 1 (eGet 12 17 (eR 0)))
  (sSeq (sPut 12 17 (eR 0) (eK (0)))
  (sRet 0 (eI 1)))))
abbrev M_Md_drop : kM := (cX12_drop, yX12_drop.cls, 2, { frames := 0, cells := 0, slots := 0, locals := 0 }, (some .int))
set_option maxRecDepth 20000 in
theorem b_Md_drop : kSt M_Md_drop 0 0 0 0 s_Md_drop :=
  (kSt_seq (p1 := 5) (kSt_put (kE_aload_0 dX12_drop_0) (kE_ic_0 dX12_drop_1) lp_RX12_136 dX12_drop_2)
  (kSt_seq (p1 := 10) (kSt_let (kE_get (kE_aload_0 dX12_drop_5) lf_RX12_167 dX12_drop_6) (kSet_istore_1 dX12_drop_9 (by decide)))
  (kSt_seq (p1 := 15) (kSt_put (kE_aload_0 dX12_drop_10) (kE_ic_0 dX12_drop_11) lp_RX12_167 dX12_drop_12)
  (kSt_ret (tag := 0) (kE_iload_1 dX12_drop_15) ⟨fun _ => dX12_drop_16, fun q => (by cases q), fun q => (by cases q)⟩))))
noncomputable def F_Md_drop : kFn := kF 1 kI s_Md_drop
theorem c_Md_drop : kCon yX12_drop cX12_drop 2 (some .int) { frames := 0, cells := 0, slots := 0, locals := 0 } F_Md_drop := kCon_of kEnds_I (by decide +kernel) (by decide) ⟨0, 0, 0, b_Md_drop⟩
noncomputable def l_Md_ofArcs_1 : kSx := sFor 4 (cC 2 (eI 3) (eGet 12 10 (eR 0)))
  (sTrunc 4 (sSeq (sLet 0 4 (eAld 0 (eGet 12 11 (eR 0)) (eI 3)))
  (sSeq (sLet 0 5 (eIf (cC 0 (eI 1) (eK (4))) (eCall 12 F_Md_isBridge (eSnoc (eSnoc eNil (eR 0)) (eI 4))) (eIf (cC 0 (eI 1) (eK (6))) (eAld 1 (eGet 12 8 (eR 0)) (eI 4)) (eIf (cAnd (cC 0 (eI 1) (eK (10))) (cZ 1 (eAld 1 (eGet 12 7 (eR 0)) (eI 4)))) (eK (1)) (eK (0))))))
  (sLet 0 2 (eIf (cC 0 (eI 1) (eK (9))) (eIf (cC 4 (eAld 0 (eGet 12 6 (eR 0)) (eI 4)) (eI 2)) (eAld 0 (eGet 12 6 (eR 0)) (eI 4)) (eI 2)) (eIf (cZ 1 (eI 5)) (eBin kAdd (eI 2) (eK (1))) (eI 2)))))))
  (sInc 3 (1))
noncomputable def s_Md_ofArcs : kSx :=
  (sSeq (sLet 0 2 (eK (0)))
  (sSeq (sTrunc 3 (sSeq (sLet 0 3 (eK (0))) l_Md_ofArcs_1))
  (sRet 0 (eI 2))))
abbrev M_Md_ofArcs : kM := (cX12_ofArcs, yX12_ofArcs.cls, 6, { frames := 2, cells := 0, slots := 0, locals := 49 }, (some .int))
set_option maxRecDepth 20000 in
theorem b_Md_ofArcs : kSt M_Md_ofArcs 0 0 0 0 s_Md_ofArcs :=
  (kSt_seq (p1 := 2) (kSt_let (kE_ic_0 dX12_ofArcs_0) (kSet_istore_2 dX12_ofArcs_1 (by decide)))
  (kSt_seq (p1 := 123) (kSt_trunc (kSt_seq (kSt_let (kE_ic_0 dX12_ofArcs_2) (kSet_istore_3 dX12_ofArcs_3 (by decide))) (kSt_for (pu := 117) (pt := 12) (kCd_C (kE_iload_3 dX12_ofArcs_4) (kE_get (kE_aload_0 dX12_ofArcs_5) lf_RX12_146 dX12_ofArcs_6) (kJf_2 (tgt := 123) dX12_ofArcs_9 (by decide))) (kSt_trunc (kSt_seq (p1 := 20) (kSt_let (kE_iald (kE_get (kE_aload_0 dX12_ofArcs_12) lf_RX12_32 dX12_ofArcs_13) (kE_iload_3 dX12_ofArcs_16) dX12_ofArcs_17) (kSet_istore dX12_ofArcs_18 (by decide)))
  (kSt_seq (p1 := 73) (kSt_let (kE_if (kCd_C (kE_iload_1 dX12_ofArcs_20) (kE_ic_4 dX12_ofArcs_21) (kJf_0 (tgt := 34) dX12_ofArcs_22 (by decide))) (kE_goto (tgt := 71) (kE_call (kEs_snoc (kEs_snoc kEs_nil (kE_aload_0 dX12_ofArcs_25)) (kE_iload dX12_ofArcs_26)) dX12_ofArcs_28 c_Md_isBridge mv_Md_isBridge lm_RX12_230 ⟨rfl, rfl, by decide, by decide⟩ (by decide)) dX12_ofArcs_31 (by decide)) (kE_if (kCd_C (kE_iload_1 dX12_ofArcs_34) (kE_bipush dX12_ofArcs_35 (by rfl) ⟨by decide, by decide⟩) (kJf_0 (tgt := 50) dX12_ofArcs_37 (by decide))) (kE_goto (tgt := 71) (kE_zald (kE_get (kE_aload_0 dX12_ofArcs_40) lf_RX12_26 dX12_ofArcs_41) (kE_iload dX12_ofArcs_44) dX12_ofArcs_46) dX12_ofArcs_47 (by decide)) (kE_if (kCd_and (kCd_C (kE_iload_1 dX12_ofArcs_50) (kE_bipush dX12_ofArcs_51 (by rfl) ⟨by decide, by decide⟩) (kJf_0 (tgt := 70) dX12_ofArcs_53 (by decide))) (kCd_Z (kE_zald (kE_get (kE_aload_0 dX12_ofArcs_56) lf_RX12_22 dX12_ofArcs_57) (kE_iload dX12_ofArcs_60) dX12_ofArcs_62) (kZf_1 (tgt := 70) dX12_ofArcs_63 (by decide)))) (kE_goto (tgt := 71) (kE_ic_1 dX12_ofArcs_66) dX12_ofArcs_67 (by decide)) (kE_ic_0 dX12_ofArcs_70)))) (kSet_istore dX12_ofArcs_71 (by decide)))
  (kSt_let (kE_if (kCd_C (kE_iload_1 dX12_ofArcs_73) (kE_bipush dX12_ofArcs_74 (by rfl) ⟨by decide, by decide⟩) (kJf_0 (tgt := 104) dX12_ofArcs_76 (by decide))) (kE_if (kCd_C (kE_iald (kE_get (kE_aload_0 dX12_ofArcs_79) lf_RX12_19 dX12_ofArcs_80) (kE_iload dX12_ofArcs_83) dX12_ofArcs_85) (kE_iload_2 dX12_ofArcs_86) (kJf_4 (tgt := 100) dX12_ofArcs_87 (by decide))) (kE_goto (tgt := 116) (kE_iald (kE_get (kE_aload_0 dX12_ofArcs_90) lf_RX12_19 dX12_ofArcs_91) (kE_iload dX12_ofArcs_94) dX12_ofArcs_96) dX12_ofArcs_97 (by decide)) (kE_goto (tgt := 116) (kE_iload_2 dX12_ofArcs_100) dX12_ofArcs_101 (by decide))) (kE_if (kCd_Z (kE_iload dX12_ofArcs_104) (kZf_1 (tgt := 115) dX12_ofArcs_106 (by decide))) (kE_goto (tgt := 116) (kE_bin (kE_iload_2 dX12_ofArcs_109) (kE_ic_1 dX12_ofArcs_110) (kOp_add dX12_ofArcs_111)) dX12_ofArcs_112 (by decide)) (kE_iload_2 dX12_ofArcs_115))) (kSet_istore_2 dX12_ofArcs_116 (by decide)))))) (kSt_goto (tgt := 4) (kSt_inc dX12_ofArcs_117 (by decide)) dX12_ofArcs_120 (by decide)))))
  (kSt_ret (tag := 0) (kE_iload_2 dX12_ofArcs_123) ⟨fun _ => dX12_ofArcs_124, fun q => (by cases q), fun q => (by cases q)⟩)))
noncomputable def F_Md_ofArcs : kFn := kF 2 kI s_Md_ofArcs
theorem c_Md_ofArcs : kCon yX12_ofArcs cX12_ofArcs 6 (some .int) { frames := 2, cells := 0, slots := 0, locals := 49 } F_Md_ofArcs := kCon_of kEnds_I (by decide +kernel) (by decide) ⟨0, 0, 0, b_Md_ofArcs⟩
noncomputable def l_Md_told_1 : kSx := sFor 4 (cC 2 (eI 3) (eGet 12 1 (eR 0)))
  (sLet 0 2 (eBin kAdd (eI 2) (eIf (cAnd (cC 0 (eCall 12 F_Md_partOf (eSnoc (eSnoc eNil (eR 0)) (eI 3))) (eI 3)) (cC 0 (eCall 12 F_Md_oddOf (eSnoc (eSnoc eNil (eR 0)) (eI 3))) (eK (-1)))) (eK (1)) (eK (0)))))
  (sInc 3 (1))
noncomputable def l_Md_told_2 : kSx := sFor 4 (cC 2 (eI 3) (eGet 12 1 (eR 0)))
  (sLet 0 2 (eBin kAdd (eI 2) (eIf (cC 0 (eCall 12 F_Md_strongOf (eSnoc (eSnoc eNil (eR 0)) (eI 3))) (eI 3)) (eK (1)) (eK (0)))))
  (sInc 3 (1))
noncomputable def l_Md_told_3 : kSx := sFor 4 (cC 2 (eI 3) (eGet 12 1 (eR 0)))
  (sLet 0 2 (eBin kAdd (eI 2) (eIf (cZ 1 (eAld 1 (eGet 12 38 (eR 0)) (eI 3))) (eK (1)) (eK (0)))))
  (sInc 3 (1))
noncomputable def l_Md_told_4 : kSx := sFor 4 (cC 2 (eI 3) (eGet 12 1 (eR 0)))
  (sLet 0 2 (eIf (cC 4 (eAld 0 (eGet 12 41 (eR 0)) (eI 3)) (eI 2)) (eAld 0 (eGet 12 41 (eR 0)) (eI 3)) (eI 2)))
  (sInc 3 (1))
noncomputable def sw_Md_told (z : Int) : kSx := if z = 0 then (sRet 0 (eGet 12 1 (eR 0))) else
  if z = 1 then (sRet 0 (eGet 12 10 (eR 0))) else
  if z = 2 then (sRet 0 (eCall 12 F_Md_partsNow (eSnoc eNil (eR 0)))) else
  if z = 3 then (sSeq (sTrunc 3 (sSeq (sLet 0 3 (eK (0))) l_Md_told_1))
  (sRet 0 (eI 2))) else
  if z = 5 then (sSeq (sTrunc 3 (sSeq (sLet 0 3 (eK (0))) l_Md_told_2))
  (sRet 0 (eI 2))) else
  if z = 7 then (sSeq (sCall 12 F_Md_theSet (eSnoc eNil (eR 0)))
  (sSeq (sTrunc 3 (sSeq (sLet 0 3 (eK (0))) l_Md_told_3))
  (sRet 0 (eI 2)))) else
  if z = 8 then (sSeq (sCall 12 F_Md_cores (eSnoc eNil (eR 0)))
  (sSeq (sTrunc 3 (sSeq (sLet 0 3 (eK (0))) l_Md_told_4))
  (sRet 0 (eI 2)))) else
  if z = 11 then (sRet 0 (eGet 12 17 (eR 0))) else
  if z = 12 then (sRet 0 (eGet 12 16 (eR 0))) else
  (sRet 0 (eCall 12 F_Md_ofArcs (eSnoc (eSnoc eNil (eR 0)) (eI 1))))
noncomputable def s_Md_told : kSx :=
  (sSeq (sPut 12 22 (eR 0) (eK (0)))
  (sSeq (sIf (cOr (cZ 2 (eI 1)) (cC 4 (eI 1) (eK (12)))) (sRet 0 (eCall 12 F_Md_fail (eSnoc (eSnoc eNil (eR 0)) (eK (1))))) sSkip)
  (sSeq (sLet 0 2 (eK (0)))
  (sSwitch (eI 1) sw_Md_told))))
abbrev M_Md_told : kM := (cX12_told, yX12_told.cls, 4, { frames := 3, cells := 0, slots := 0, locals := 74 }, (some .int))
set_option maxRecDepth 20000 in
theorem b_Md_told : kSt M_Md_told 0 0 0 0 s_Md_told :=
  (kSt_seq (p1 := 5) (kSt_put (kE_aload_0 dX12_told_0) (kE_ic_0 dX12_told_1) lp_RX12_136 dX12_told_2)
  (kSt_seq (p1 := 21) (kSt_if (kCd_or (kCd_Z (kE_iload_1 dX12_told_5) (kZt_2 (tgt := 15) dX12_told_6 (by decide))) (kCd_C (kE_iload_1 dX12_told_9) (kE_bipush dX12_told_10 (by rfl) ⟨by decide, by decide⟩) (kJf_4 (tgt := 21) dX12_told_12 (by decide)))) (kSt_ret (tag := 0) (kE_call (kEs_snoc (kEs_snoc kEs_nil (kE_aload_0 dX12_told_15)) (kE_ic_1 dX12_told_16)) dX12_told_17 c_Md_fail mv_Md_fail lm_RX12_164 ⟨rfl, rfl, by decide, by decide⟩ (by decide)) ⟨fun _ => dX12_told_20, fun q => (by cases q), fun q => (by cases q)⟩) kSt_skip)
  (kSt_seq (p1 := 23) (kSt_let (kE_ic_0 dX12_told_21) (kSet_istore_2 dX12_told_22 (by decide)))
  (kSt_tsw (f := sw_Md_told) (kE_iload_1 dX12_told_23) dX12_told_24 (fun z => by
    unfold sw_Md_told
    by_cases h0 : z = 0
    · subst h0; exact ⟨92, Or.inr ⟨by decide, by decide, 68, rfl, by decide⟩, by
      first | (simp only [reduceIte, Int.reduceEq]; exact (kSt_ret (tag := 0) (kE_get (kE_aload_0 dX12_told_92) lf_RX12_140 dX12_told_93) ⟨fun _ => dX12_told_96, fun q => (by cases q), fun q => (by cases q)⟩)) | (simp; exact (kSt_ret (tag := 0) (kE_get (kE_aload_0 dX12_told_92) lf_RX12_140 dX12_told_93) ⟨fun _ => dX12_told_96, fun q => (by cases q), fun q => (by cases q)⟩))⟩
    by_cases h1 : z = 1
    · subst h1; exact ⟨97, Or.inr ⟨by decide, by decide, 73, rfl, by decide⟩, by
      first | (simp only [reduceIte, Int.reduceEq]; exact (kSt_ret (tag := 0) (kE_get (kE_aload_0 dX12_told_97) lf_RX12_146 dX12_told_98) ⟨fun _ => dX12_told_101, fun q => (by cases q), fun q => (by cases q)⟩)) | (simp; exact (kSt_ret (tag := 0) (kE_get (kE_aload_0 dX12_told_97) lf_RX12_146 dX12_told_98) ⟨fun _ => dX12_told_101, fun q => (by cases q), fun q => (by cases q)⟩))⟩
    by_cases h2 : z = 2
    · subst h2; exact ⟨102, Or.inr ⟨by decide, by decide, 78, rfl, by decide⟩, by
      first | (simp only [reduceIte, Int.reduceEq]; exact (kSt_ret (tag := 0) (kE_call (kEs_snoc kEs_nil (kE_aload_0 dX12_told_102)) dX12_told_103 c_Md_partsNow mv_Md_partsNow lm_RX12_206 ⟨rfl, rfl, by decide, by decide⟩ (by decide)) ⟨fun _ => dX12_told_106, fun q => (by cases q), fun q => (by cases q)⟩)) | (simp; exact (kSt_ret (tag := 0) (kE_call (kEs_snoc kEs_nil (kE_aload_0 dX12_told_102)) dX12_told_103 c_Md_partsNow mv_Md_partsNow lm_RX12_206 ⟨rfl, rfl, by decide, by decide⟩ (by decide)) ⟨fun _ => dX12_told_106, fun q => (by cases q), fun q => (by cases q)⟩))⟩
    by_cases h3 : z = 3
    · subst h3; exact ⟨107, Or.inr ⟨by decide, by decide, 83, rfl, by decide⟩, by
      first | (simp only [reduceIte, Int.reduceEq]; exact (kSt_seq (p1 := 149) (kSt_trunc (kSt_seq (kSt_let (kE_ic_0 dX12_told_107) (kSet_istore_3 dX12_told_108 (by decide))) (kSt_for (pu := 143) (pt := 117) (kCd_C (kE_iload_3 dX12_told_109) (kE_get (kE_aload_0 dX12_told_110) lf_RX12_140 dX12_told_111) (kJf_2 (tgt := 149) dX12_told_114 (by decide))) (kSt_let (kE_bin (kE_iload_2 dX12_told_117) (kE_if (kCd_and (kCd_C (kE_call (kEs_snoc (kEs_snoc kEs_nil (kE_aload_0 dX12_told_118)) (kE_iload_3 dX12_told_119)) dX12_told_120 c_Md_partOf mv_Md_partOf lm_RX12_160 ⟨rfl, rfl, by decide, by decide⟩ (by decide)) (kE_iload_3 dX12_told_123) (kJf_0 (tgt := 140) dX12_told_124 (by decide))) (kCd_C (kE_call (kEs_snoc (kEs_snoc kEs_nil (kE_aload_0 dX12_told_127)) (kE_iload_3 dX12_told_128)) dX12_told_129 c_Md_oddOf mv_Md_oddOf lm_RX12_224 ⟨rfl, rfl, by decide, by decide⟩ (by decide)) (kE_ic_m1 dX12_told_132) (kJf_0 (tgt := 140) dX12_told_133 (by decide)))) (kE_goto (tgt := 141) (kE_ic_1 dX12_told_136) dX12_told_137 (by decide)) (kE_ic_0 dX12_told_140)) (kOp_add dX12_told_141)) (kSet_istore_2 dX12_told_142 (by decide))) (kSt_goto (tgt := 109) (kSt_inc dX12_told_143 (by decide)) dX12_told_146 (by decide)))))
  (kSt_ret (tag := 0) (kE_iload_2 dX12_told_149) ⟨fun _ => dX12_told_150, fun q => (by cases q), fun q => (by cases q)⟩))) | (simp; exact (kSt_seq (p1 := 149) (kSt_trunc (kSt_seq (kSt_let (kE_ic_0 dX12_told_107) (kSet_istore_3 dX12_told_108 (by decide))) (kSt_for (pu := 143) (pt := 117) (kCd_C (kE_iload_3 dX12_told_109) (kE_get (kE_aload_0 dX12_told_110) lf_RX12_140 dX12_told_111) (kJf_2 (tgt := 149) dX12_told_114 (by decide))) (kSt_let (kE_bin (kE_iload_2 dX12_told_117) (kE_if (kCd_and (kCd_C (kE_call (kEs_snoc (kEs_snoc kEs_nil (kE_aload_0 dX12_told_118)) (kE_iload_3 dX12_told_119)) dX12_told_120 c_Md_partOf mv_Md_partOf lm_RX12_160 ⟨rfl, rfl, by decide, by decide⟩ (by decide)) (kE_iload_3 dX12_told_123) (kJf_0 (tgt := 140) dX12_told_124 (by decide))) (kCd_C (kE_call (kEs_snoc (kEs_snoc kEs_nil (kE_aload_0 dX12_told_127)) (kE_iload_3 dX12_told_128)) dX12_told_129 c_Md_oddOf mv_Md_oddOf lm_RX12_224 ⟨rfl, rfl, by decide, by decide⟩ (by decide)) (kE_ic_m1 dX12_told_132) (kJf_0 (tgt := 140) dX12_told_133 (by decide)))) (kE_goto (tgt := 141) (kE_ic_1 dX12_told_136) dX12_told_137 (by decide)) (kE_ic_0 dX12_told_140)) (kOp_add dX12_told_141)) (kSet_istore_2 dX12_told_142 (by decide))) (kSt_goto (tgt := 109) (kSt_inc dX12_told_143 (by decide)) dX12_told_146 (by decide)))))
  (kSt_ret (tag := 0) (kE_iload_2 dX12_told_149) ⟨fun _ => dX12_told_150, fun q => (by cases q), fun q => (by cases q)⟩)))⟩
    by_cases h4 : z = 4
    · subst h4; exact ⟨278, Or.inr ⟨by decide, by decide, 254, rfl, by decide⟩, by
      first | (simp only [reduceIte, Int.reduceEq]; exact (kSt_ret (tag := 0) (kE_call (kEs_snoc (kEs_snoc kEs_nil (kE_aload_0 dX12_told_278)) (kE_iload_1 dX12_told_279)) dX12_told_280 c_Md_ofArcs mv_Md_ofArcs lm_RX12_246 ⟨rfl, rfl, by decide, by decide⟩ (by decide)) ⟨fun _ => dX12_told_283, fun q => (by cases q), fun q => (by cases q)⟩)) | (simp; exact (kSt_ret (tag := 0) (kE_call (kEs_snoc (kEs_snoc kEs_nil (kE_aload_0 dX12_told_278)) (kE_iload_1 dX12_told_279)) dX12_told_280 c_Md_ofArcs mv_Md_ofArcs lm_RX12_246 ⟨rfl, rfl, by decide, by decide⟩ (by decide)) ⟨fun _ => dX12_told_283, fun q => (by cases q), fun q => (by cases q)⟩))⟩
    by_cases h5 : z = 5
    · subst h5; exact ⟨151, Or.inr ⟨by decide, by decide, 127, rfl, by decide⟩, by
      first | (simp only [reduceIte, Int.reduceEq]; exact (kSt_seq (p1 := 184) (kSt_trunc (kSt_seq (kSt_let (kE_ic_0 dX12_told_151) (kSet_istore_3 dX12_told_152 (by decide))) (kSt_for (pu := 178) (pt := 161) (kCd_C (kE_iload_3 dX12_told_153) (kE_get (kE_aload_0 dX12_told_154) lf_RX12_140 dX12_told_155) (kJf_2 (tgt := 184) dX12_told_158 (by decide))) (kSt_let (kE_bin (kE_iload_2 dX12_told_161) (kE_if (kCd_C (kE_call (kEs_snoc (kEs_snoc kEs_nil (kE_aload_0 dX12_told_162)) (kE_iload_3 dX12_told_163)) dX12_told_164 c_Md_strongOf mv_Md_strongOf lm_RX12_218 ⟨rfl, rfl, by decide, by decide⟩ (by decide)) (kE_iload_3 dX12_told_167) (kJf_0 (tgt := 175) dX12_told_168 (by decide))) (kE_goto (tgt := 176) (kE_ic_1 dX12_told_171) dX12_told_172 (by decide)) (kE_ic_0 dX12_told_175)) (kOp_add dX12_told_176)) (kSet_istore_2 dX12_told_177 (by decide))) (kSt_goto (tgt := 153) (kSt_inc dX12_told_178 (by decide)) dX12_told_181 (by decide)))))
  (kSt_ret (tag := 0) (kE_iload_2 dX12_told_184) ⟨fun _ => dX12_told_185, fun q => (by cases q), fun q => (by cases q)⟩))) | (simp; exact (kSt_seq (p1 := 184) (kSt_trunc (kSt_seq (kSt_let (kE_ic_0 dX12_told_151) (kSet_istore_3 dX12_told_152 (by decide))) (kSt_for (pu := 178) (pt := 161) (kCd_C (kE_iload_3 dX12_told_153) (kE_get (kE_aload_0 dX12_told_154) lf_RX12_140 dX12_told_155) (kJf_2 (tgt := 184) dX12_told_158 (by decide))) (kSt_let (kE_bin (kE_iload_2 dX12_told_161) (kE_if (kCd_C (kE_call (kEs_snoc (kEs_snoc kEs_nil (kE_aload_0 dX12_told_162)) (kE_iload_3 dX12_told_163)) dX12_told_164 c_Md_strongOf mv_Md_strongOf lm_RX12_218 ⟨rfl, rfl, by decide, by decide⟩ (by decide)) (kE_iload_3 dX12_told_167) (kJf_0 (tgt := 175) dX12_told_168 (by decide))) (kE_goto (tgt := 176) (kE_ic_1 dX12_told_171) dX12_told_172 (by decide)) (kE_ic_0 dX12_told_175)) (kOp_add dX12_told_176)) (kSet_istore_2 dX12_told_177 (by decide))) (kSt_goto (tgt := 153) (kSt_inc dX12_told_178 (by decide)) dX12_told_181 (by decide)))))
  (kSt_ret (tag := 0) (kE_iload_2 dX12_told_184) ⟨fun _ => dX12_told_185, fun q => (by cases q), fun q => (by cases q)⟩)))⟩
    by_cases h6 : z = 6
    · subst h6; exact ⟨278, Or.inr ⟨by decide, by decide, 254, rfl, by decide⟩, by
      first | (simp only [reduceIte, Int.reduceEq]; exact (kSt_ret (tag := 0) (kE_call (kEs_snoc (kEs_snoc kEs_nil (kE_aload_0 dX12_told_278)) (kE_iload_1 dX12_told_279)) dX12_told_280 c_Md_ofArcs mv_Md_ofArcs lm_RX12_246 ⟨rfl, rfl, by decide, by decide⟩ (by decide)) ⟨fun _ => dX12_told_283, fun q => (by cases q), fun q => (by cases q)⟩)) | (simp; exact (kSt_ret (tag := 0) (kE_call (kEs_snoc (kEs_snoc kEs_nil (kE_aload_0 dX12_told_278)) (kE_iload_1 dX12_told_279)) dX12_told_280 c_Md_ofArcs mv_Md_ofArcs lm_RX12_246 ⟨rfl, rfl, by decide, by decide⟩ (by decide)) ⟨fun _ => dX12_told_283, fun q => (by cases q), fun q => (by cases q)⟩))⟩
    by_cases h7 : z = 7
    · subst h7; exact ⟨186, Or.inr ⟨by decide, by decide, 162, rfl, by decide⟩, by
      first | (simp only [reduceIte, Int.reduceEq]; exact (kSt_seq (p1 := 190) (kSt_call (kEs_snoc kEs_nil (kE_aload_0 dX12_told_186)) dX12_told_187 c_Md_theSet mv_Md_theSet lm_RX12_212 ⟨rfl, rfl, by decide, by decide⟩)
  (kSt_seq (p1 := 223) (kSt_trunc (kSt_seq (kSt_let (kE_ic_0 dX12_told_190) (kSet_istore_3 dX12_told_191 (by decide))) (kSt_for (pu := 217) (pt := 200) (kCd_C (kE_iload_3 dX12_told_192) (kE_get (kE_aload_0 dX12_told_193) lf_RX12_140 dX12_told_194) (kJf_2 (tgt := 223) dX12_told_197 (by decide))) (kSt_let (kE_bin (kE_iload_2 dX12_told_200) (kE_if (kCd_Z (kE_zald (kE_get (kE_aload_0 dX12_told_201) lf_RX12_99 dX12_told_202) (kE_iload_3 dX12_told_205) dX12_told_206) (kZf_1 (tgt := 214) dX12_told_207 (by decide))) (kE_goto (tgt := 215) (kE_ic_1 dX12_told_210) dX12_told_211 (by decide)) (kE_ic_0 dX12_told_214)) (kOp_add dX12_told_215)) (kSet_istore_2 dX12_told_216 (by decide))) (kSt_goto (tgt := 192) (kSt_inc dX12_told_217 (by decide)) dX12_told_220 (by decide)))))
  (kSt_ret (tag := 0) (kE_iload_2 dX12_told_223) ⟨fun _ => dX12_told_224, fun q => (by cases q), fun q => (by cases q)⟩)))) | (simp; exact (kSt_seq (p1 := 190) (kSt_call (kEs_snoc kEs_nil (kE_aload_0 dX12_told_186)) dX12_told_187 c_Md_theSet mv_Md_theSet lm_RX12_212 ⟨rfl, rfl, by decide, by decide⟩)
  (kSt_seq (p1 := 223) (kSt_trunc (kSt_seq (kSt_let (kE_ic_0 dX12_told_190) (kSet_istore_3 dX12_told_191 (by decide))) (kSt_for (pu := 217) (pt := 200) (kCd_C (kE_iload_3 dX12_told_192) (kE_get (kE_aload_0 dX12_told_193) lf_RX12_140 dX12_told_194) (kJf_2 (tgt := 223) dX12_told_197 (by decide))) (kSt_let (kE_bin (kE_iload_2 dX12_told_200) (kE_if (kCd_Z (kE_zald (kE_get (kE_aload_0 dX12_told_201) lf_RX12_99 dX12_told_202) (kE_iload_3 dX12_told_205) dX12_told_206) (kZf_1 (tgt := 214) dX12_told_207 (by decide))) (kE_goto (tgt := 215) (kE_ic_1 dX12_told_210) dX12_told_211 (by decide)) (kE_ic_0 dX12_told_214)) (kOp_add dX12_told_215)) (kSet_istore_2 dX12_told_216 (by decide))) (kSt_goto (tgt := 192) (kSt_inc dX12_told_217 (by decide)) dX12_told_220 (by decide)))))
  (kSt_ret (tag := 0) (kE_iload_2 dX12_told_223) ⟨fun _ => dX12_told_224, fun q => (by cases q), fun q => (by cases q)⟩))))⟩
    by_cases h8 : z = 8
    · subst h8; exact ⟨225, Or.inr ⟨by decide, by decide, 201, rfl, by decide⟩, by
      first | (simp only [reduceIte, Int.reduceEq]; exact (kSt_seq (p1 := 229) (kSt_call (kEs_snoc kEs_nil (kE_aload_0 dX12_told_225)) dX12_told_226 c_Md_cores mv_Md_cores lm_RX12_221 ⟨rfl, rfl, by decide, by decide⟩)
  (kSt_seq (p1 := 266) (kSt_trunc (kSt_seq (kSt_let (kE_ic_0 dX12_told_229) (kSet_istore_3 dX12_told_230 (by decide))) (kSt_for (pu := 260) (pt := 239) (kCd_C (kE_iload_3 dX12_told_231) (kE_get (kE_aload_0 dX12_told_232) lf_RX12_140 dX12_told_233) (kJf_2 (tgt := 266) dX12_told_236 (by decide))) (kSt_let (kE_if (kCd_C (kE_iald (kE_get (kE_aload_0 dX12_told_239) lf_RX12_108 dX12_told_240) (kE_iload_3 dX12_told_243) dX12_told_244) (kE_iload_2 dX12_told_245) (kJf_4 (tgt := 258) dX12_told_246 (by decide))) (kE_goto (tgt := 259) (kE_iald (kE_get (kE_aload_0 dX12_told_249) lf_RX12_108 dX12_told_250) (kE_iload_3 dX12_told_253) dX12_told_254) dX12_told_255 (by decide)) (kE_iload_2 dX12_told_258)) (kSet_istore_2 dX12_told_259 (by decide))) (kSt_goto (tgt := 231) (kSt_inc dX12_told_260 (by decide)) dX12_told_263 (by decide)))))
  (kSt_ret (tag := 0) (kE_iload_2 dX12_told_266) ⟨fun _ => dX12_told_267, fun q => (by cases q), fun q => (by cases q)⟩)))) | (simp; exact (kSt_seq (p1 := 229) (kSt_call (kEs_snoc kEs_nil (kE_aload_0 dX12_told_225)) dX12_told_226 c_Md_cores mv_Md_cores lm_RX12_221 ⟨rfl, rfl, by decide, by decide⟩)
  (kSt_seq (p1 := 266) (kSt_trunc (kSt_seq (kSt_let (kE_ic_0 dX12_told_229) (kSet_istore_3 dX12_told_230 (by decide))) (kSt_for (pu := 260) (pt := 239) (kCd_C (kE_iload_3 dX12_told_231) (kE_get (kE_aload_0 dX12_told_232) lf_RX12_140 dX12_told_233) (kJf_2 (tgt := 266) dX12_told_236 (by decide))) (kSt_let (kE_if (kCd_C (kE_iald (kE_get (kE_aload_0 dX12_told_239) lf_RX12_108 dX12_told_240) (kE_iload_3 dX12_told_243) dX12_told_244) (kE_iload_2 dX12_told_245) (kJf_4 (tgt := 258) dX12_told_246 (by decide))) (kE_goto (tgt := 259) (kE_iald (kE_get (kE_aload_0 dX12_told_249) lf_RX12_108 dX12_told_250) (kE_iload_3 dX12_told_253) dX12_told_254) dX12_told_255 (by decide)) (kE_iload_2 dX12_told_258)) (kSet_istore_2 dX12_told_259 (by decide))) (kSt_goto (tgt := 231) (kSt_inc dX12_told_260 (by decide)) dX12_told_263 (by decide)))))
  (kSt_ret (tag := 0) (kE_iload_2 dX12_told_266) ⟨fun _ => dX12_told_267, fun q => (by cases q), fun q => (by cases q)⟩))))⟩
    by_cases h9 : z = 9
    · subst h9; exact ⟨278, Or.inr ⟨by decide, by decide, 254, rfl, by decide⟩, by
      first | (simp only [reduceIte, Int.reduceEq]; exact (kSt_ret (tag := 0) (kE_call (kEs_snoc (kEs_snoc kEs_nil (kE_aload_0 dX12_told_278)) (kE_iload_1 dX12_told_279)) dX12_told_280 c_Md_ofArcs mv_Md_ofArcs lm_RX12_246 ⟨rfl, rfl, by decide, by decide⟩ (by decide)) ⟨fun _ => dX12_told_283, fun q => (by cases q), fun q => (by cases q)⟩)) | (simp; exact (kSt_ret (tag := 0) (kE_call (kEs_snoc (kEs_snoc kEs_nil (kE_aload_0 dX12_told_278)) (kE_iload_1 dX12_told_279)) dX12_told_280 c_Md_ofArcs mv_Md_ofArcs lm_RX12_246 ⟨rfl, rfl, by decide, by decide⟩ (by decide)) ⟨fun _ => dX12_told_283, fun q => (by cases q), fun q => (by cases q)⟩))⟩
    by_cases h10 : z = 10
    · subst h10; exact ⟨278, Or.inr ⟨by decide, by decide, 254, rfl, by decide⟩, by
      first | (simp only [reduceIte, Int.reduceEq]; exact (kSt_ret (tag := 0) (kE_call (kEs_snoc (kEs_snoc kEs_nil (kE_aload_0 dX12_told_278)) (kE_iload_1 dX12_told_279)) dX12_told_280 c_Md_ofArcs mv_Md_ofArcs lm_RX12_246 ⟨rfl, rfl, by decide, by decide⟩ (by decide)) ⟨fun _ => dX12_told_283, fun q => (by cases q), fun q => (by cases q)⟩)) | (simp; exact (kSt_ret (tag := 0) (kE_call (kEs_snoc (kEs_snoc kEs_nil (kE_aload_0 dX12_told_278)) (kE_iload_1 dX12_told_279)) dX12_told_280 c_Md_ofArcs mv_Md_ofArcs lm_RX12_246 ⟨rfl, rfl, by decide, by decide⟩ (by decide)) ⟨fun _ => dX12_told_283, fun q => (by cases q), fun q => (by cases q)⟩))⟩
    by_cases h11 : z = 11
    · subst h11; exact ⟨268, Or.inr ⟨by decide, by decide, 244, rfl, by decide⟩, by
      first | (simp only [reduceIte, Int.reduceEq]; exact (kSt_ret (tag := 0) (kE_get (kE_aload_0 dX12_told_268) lf_RX12_167 dX12_told_269) ⟨fun _ => dX12_told_272, fun q => (by cases q), fun q => (by cases q)⟩)) | (simp; exact (kSt_ret (tag := 0) (kE_get (kE_aload_0 dX12_told_268) lf_RX12_167 dX12_told_269) ⟨fun _ => dX12_told_272, fun q => (by cases q), fun q => (by cases q)⟩))⟩
    by_cases h12 : z = 12
    · subst h12; exact ⟨273, Or.inr ⟨by decide, by decide, 249, rfl, by decide⟩, by
      first | (simp only [reduceIte, Int.reduceEq]; exact (kSt_ret (tag := 0) (kE_get (kE_aload_0 dX12_told_273) lf_RX12_194 dX12_told_274) ⟨fun _ => dX12_told_277, fun q => (by cases q), fun q => (by cases q)⟩)) | (simp; exact (kSt_ret (tag := 0) (kE_get (kE_aload_0 dX12_told_273) lf_RX12_194 dX12_told_274) ⟨fun _ => dX12_told_277, fun q => (by cases q), fun q => (by cases q)⟩))⟩
    refine ⟨278, Or.inl ⟨by omega, by decide⟩, ?_⟩
    simp only [h0, h1, h2, h3, h5, h7, h8, h11, h12]; exact (kSt_ret (tag := 0) (kE_call (kEs_snoc (kEs_snoc kEs_nil (kE_aload_0 dX12_told_278)) (kE_iload_1 dX12_told_279)) dX12_told_280 c_Md_ofArcs mv_Md_ofArcs lm_RX12_246 ⟨rfl, rfl, by decide, by decide⟩ (by decide)) ⟨fun _ => dX12_told_283, fun q => (by cases q), fun q => (by cases q)⟩))))))
noncomputable def F_Md_told : kFn := kF 2 kI s_Md_told
theorem c_Md_told : kCon yX12_told cX12_told 4 (some .int) { frames := 3, cells := 0, slots := 0, locals := 74 } F_Md_told := kCon_of kEnds_I (by decide +kernel) (by decide) ⟨0, 0, 0, b_Md_told⟩
