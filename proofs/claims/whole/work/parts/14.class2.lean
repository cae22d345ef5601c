noncomputable def s_Twice_isBridge : kSx :=
  (sRet 0 (eIf (cAnd (cZ 1 (eAld 1 (eGet 8 1 (eGet 9 1 (eR 0))) (eI 1))) (cNot (cZ 1 (eCall 9 F_Twice_together (eSnoc (eSnoc (eSnoc eNil (eR 0)) (eAld 0 (eGet 10 0 (eGet 9 0 (eR 0))) (eI 1))) (eAld 0 (eGet 10 1 (eGet 9 0 (eR 0))) (eI 1))))))) (eK (1)) (eK (0))))
abbrev M_Twice_isBridge : kM := (cX9_isBridge, yX9_isBridge.cls, 2, { frames := 4, cells := 0, slots := 0, locals := 95 }, (some .boolean))
set_option maxRecDepth 20000 in
theorem b_Twice_isBridge : kSt M_Twice_isBridge 0 0 0 0 s_Twice_isBridge :=
  (kSt_ret (tag := 0) (kE_if (kCd_and (kCd_Z (kE_zald (kE_get (kE_get (kE_aload_0 dX9_isBridge_0) lf_RX9_19 dX9_isBridge_1) lf_RX9_30 dX9_isBridge_4) (kE_iload_1 dX9_isBridge_7) dX9_isBridge_8) (kZf_1 (tgt := 41) dX9_isBridge_9 (by decide))) (kCd_not (kCd_Z (kE_call (kEs_snoc (kEs_snoc (kEs_snoc kEs_nil (kE_aload_0 dX9_isBridge_12)) (kE_iald (kE_get (kE_get (kE_aload_0 dX9_isBridge_13) lf_RX9_15 dX9_isBridge_14) lf_RX9_36 dX9_isBridge_17) (kE_iload_1 dX9_isBridge_20) dX9_isBridge_21)) (kE_iald (kE_get (kE_get (kE_aload_0 dX9_isBridge_22) lf_RX9_15 dX9_isBridge_23) lf_RX9_41 dX9_isBridge_26) (kE_iload_1 dX9_isBridge_29) dX9_isBridge_30)) dX9_isBridge_31 c_Twice_together mv_Twice_together lm_RX9_44 ⟨rfl, rfl, by decide, by decide⟩ (by decide)) (kZt_1 (tgt := 41) dX9_isBridge_34 (by decide))))) (kE_goto (tgt := 42) (kE_ic_1 dX9_isBridge_37) dX9_isBridge_38 (by decide)) (kE_ic_0 dX9_isBridge_41)) ⟨fun _ => dX9_isBridge_42, fun q => (by cases q), fun q => (by cases q)⟩)
noncomputable def F_Twice_isBridge : kFn := kF 2 kZ s_Twice_isBridge
theorem c_Twice_isBridge : kCon yX9_isBridge cX9_isBridge 2 (some .boolean) { frames := 4, cells := 0, slots := 0, locals := 95 } F_Twice_isBridge := kCon_of kEnds_Z (by decide +kernel) (by decide) ⟨0, 0, 0, b_Twice_isBridge⟩
noncomputable def l_Twice_bridges_1 : kSx := sFor 3 (cC 2 (eI 2) (eGet 10 4 (eGet 9 0 (eR 0))))
  (sIf (cZ 1 (eCall 9 F_Twice_isBridge (eSnoc (eSnoc eNil (eR 0)) (eAld 0 (eGet 10 2 (eGet 9 0 (eR 0))) (eI 2))))) (sInc 1 (1)) sSkip)
  (sInc 2 (1))
noncomputable def s_Twice_bridges : kSx :=
  (sSeq (sLet 0 1 (eK (0)))
  (sSeq (sTrunc 2 (sSeq (sLet 0 2 (eK (0))) l_Twice_bridges_1))
  (sRet 0 (eI 1))))
abbrev M_Twice_bridges : kM := (cX9_bridges, yX9_bridges.cls, 3, { frames := 5, cells := 0, slots := 0, locals := 116 }, (some .int))
set_option maxRecDepth 20000 in
theorem b_Twice_bridges : kSt M_Twice_bridges 0 0 0 0 s_Twice_bridges :=
  (kSt_seq (p1 := 2) (kSt_let (kE_ic_0 dX9_bridges_0) (kSet_istore_1 dX9_bridges_1 (by decide)))
  (kSt_seq (p1 := 40) (kSt_trunc (kSt_seq (kSt_let (kE_ic_0 dX9_bridges_2) (kSet_istore_2 dX9_bridges_3 (by decide))) (kSt_for (pu := 34) (pt := 15) (kCd_C (kE_iload_2 dX9_bridges_4) (kE_get (kE_get (kE_aload_0 dX9_bridges_5) lf_RX9_15 dX9_bridges_6) lf_RX9_48 dX9_bridges_9) (kJf_2 (tgt := 40) dX9_bridges_12 (by decide))) (kSt_if (kCd_Z (kE_call (kEs_snoc (kEs_snoc kEs_nil (kE_aload_0 dX9_bridges_15)) (kE_iald (kE_get (kE_get (kE_aload_0 dX9_bridges_16) lf_RX9_15 dX9_bridges_17) lf_RX9_52 dX9_bridges_20) (kE_iload_2 dX9_bridges_23) dX9_bridges_24)) dX9_bridges_25 c_Twice_isBridge mv_Twice_isBridge lm_RX9_55 ⟨rfl, rfl, by decide, by decide⟩ (by decide)) (kZf_1 (tgt := 34) dX9_bridges_28 (by decide))) (kSt_inc dX9_bridges_31 (by decide)) kSt_skip) (kSt_goto (tgt := 4) (kSt_inc dX9_bridges_34 (by decide)) dX9_bridges_37 (by decide)))))
  (kSt_ret (tag := 0) (kE_iload_1 dX9_bridges_40) ⟨fun _ => dX9_bridges_41, fun q => (by cases q), fun q => (by cases q)⟩)))
noncomputable def F_Twice_bridges : kFn := kF 1 kI s_Twice_bridges
theorem c_Twice_bridges : kCon yX9_bridges cX9_bridges 3 (some .int) { frames := 5, cells := 0, slots := 0, locals := 116 } F_Twice_bridges := kCon_of kEnds_I (by decide +kernel) (by decide) ⟨0, 0, 0, b_Twice_bridges⟩
noncomputable def s_Row_empty : kSx :=
  (sSeq (sPut 5 9 (eR 0) (eK (0))) sRetV)
abbrev M_Row_empty : kM := (cX5_empty, yX5_empty.cls, 1, { frames := 0, cells := 0, slots := 0, locals := 0 }, none)
set_option maxRecDepth 20000 in
theorem b_Row_empty : kSt M_Row_empty 0 0 0 0 s_Row_empty :=
  (kSt_seq (kSt_put (kE_aload_0 dX5_empty_0) (kE_ic_0 dX5_empty_1) lp_RX5_41 dX5_empty_2) (kSt_retV dX5_empty_5))
noncomputable def F_Row_empty : kFn := kF 1 kN s_Row_empty
theorem c_Row_empty : kCon yX5_empty cX5_empty 1 none { frames := 0, cells := 0, slots := 0, locals := 0 } F_Row_empty := kCon_of kEnds_V (by decide +kernel) (by decide) ⟨0, 0, 0, b_Row_empty⟩
noncomputable def s_Row_nodeAt : kSx :=
  (sRet 0 (eAld 0 (eGet 5 2 (eR 0)) (eI 1)))
abbrev M_Row_nodeAt : kM := (cX5_nodeAt, yX5_nodeAt.cls, 2, { frames := 0, cells := 0, slots := 0, locals := 0 }, (some .int))
set_option maxRecDepth 20000 in
theorem b_Row_nodeAt : kSt M_Row_nodeAt 0 0 0 0 s_Row_nodeAt :=
  (kSt_ret (tag := 0) (kE_iald (kE_get (kE_aload_0 dX5_nodeAt_0) lf_RX5_15 dX5_nodeAt_1) (kE_iload_1 dX5_nodeAt_4) dX5_nodeAt_5) ⟨fun _ => dX5_nodeAt_6, fun q => (by cases q), fun q => (by cases q)⟩)
noncomputable def F_Row_nodeAt : kFn := kF 2 kI s_Row_nodeAt
theorem c_Row_nodeAt : kCon yX5_nodeAt cX5_nodeAt 2 (some .int) { frames := 0, cells := 0, slots := 0, locals := 0 } F_Row_nodeAt := kCon_of kEnds_I (by decide +kernel) (by decide) ⟨0, 0, 0, b_Row_nodeAt⟩
noncomputable def s_Row_placeOf : kSx :=
  (sRet 0 (eAld 0 (eGet 5 3 (eR 0)) (eI 1)))
abbrev M_Row_placeOf : kM := (cX5_placeOf, yX5_placeOf.cls, 2, { frames := 0, cells := 0, slots := 0, locals := 0 }, (some .int))
set_option maxRecDepth 20000 in
theorem b_Row_placeOf : kSt M_Row_placeOf 0 0 0 0 s_Row_placeOf :=
  (kSt_ret (tag := 0) (kE_iald (kE_get (kE_aload_0 dX5_placeOf_0) lf_RX5_19 dX5_placeOf_1) (kE_iload_1 dX5_placeOf_4) dX5_placeOf_5) ⟨fun _ => dX5_placeOf_6, fun q => (by cases q), fun q => (by cases q)⟩)
noncomputable def F_Row_placeOf : kFn := kF 2 kI s_Row_placeOf
theorem c_Row_placeOf : kCon yX5_placeOf cX5_placeOf 2 (some .int) { frames := 0, cells := 0, slots := 0, locals := 0 } F_Row_placeOf := kCon_of kEnds_I (by decide +kernel) (by decide) ⟨0, 0, 0, b_Row_placeOf⟩
noncomputable def s_Row_ringArc : kSx :=
  (sRet 0 (eIf (cC 2 (eI 1) (eGet 5 9 (eR 0))) (eAld 0 (eGet 5 8 (eR 0)) (eI 1)) (eK (-1))))
abbrev M_Row_ringArc : kM := (cX5_ringArc, yX5_ringArc.cls, 2, { frames := 0, cells := 0, slots := 0, locals := 0 }, (some .int))
set_option maxRecDepth 20000 in
theorem b_Row_ringArc : kSt M_Row_ringArc 0 0 0 0 s_Row_ringArc :=
  (kSt_ret (tag := 0) (kE_if (kCd_C (kE_iload_1 dX5_ringArc_0) (kE_get (kE_aload_0 dX5_ringArc_1) lf_RX5_41 dX5_ringArc_2) (kJf_2 (tgt := 17) dX5_ringArc_5 (by decide))) (kE_goto (tgt := 18) (kE_iald (kE_get (kE_aload_0 dX5_ringArc_8) lf_RX5_34 dX5_ringArc_9) (kE_iload_1 dX5_ringArc_12) dX5_ringArc_13) dX5_ringArc_14 (by decide)) (kE_ic_m1 dX5_ringArc_17)) ⟨fun _ => dX5_ringArc_18, fun q => (by cases q), fun q => (by cases q)⟩)
noncomputable def F_Row_ringArc : kFn := kF 2 kI s_Row_ringArc
theorem c_Row_ringArc : kCon yX5_ringArc cX5_ringArc 2 (some .int) { frames := 0, cells := 0, slots := 0, locals := 0 } F_Row_ringArc := kCon_of kEnds_I (by decide +kernel) (by decide) ⟨0, 0, 0, b_Row_ringArc⟩
noncomputable def l_Row_looseArcs_1 : kSx := sFor 3 (cC 2 (eI 2) (eGet 10 4 (eGet 5 1 (eR 0))))
  (sIf (cZ 1 (eAld 1 (eGet 5 0 (eR 0)) (eAld 0 (eGet 10 2 (eGet 5 1 (eR 0))) (eI 2)))) (sInc 1 (1)) sSkip)
  (sInc 2 (1))
noncomputable def s_Row_looseArcs : kSx :=
  (sSeq (sLet 0 1 (eK (0)))
  (sSeq (sTrunc 2 (sSeq (sLet 0 2 (eK (0))) l_Row_looseArcs_1))
  (sRet 0 (eI 1))))
abbrev M_Row_looseArcs : kM := (cX5_looseArcs, yX5_looseArcs.cls, 3, { frames := 0, cells := 0, slots := 0, locals := 0 }, (some .int))
set_option maxRecDepth 20000 in
theorem b_Row_looseArcs : kSt M_Row_looseArcs 0 0 0 0 s_Row_looseArcs :=
  (kSt_seq (p1 := 2) (kSt_let (kE_ic_0 dX5_looseArcs_0) (kSet_istore_1 dX5_looseArcs_1 (by decide)))
  (kSt_seq (p1 := 41) (kSt_trunc (kSt_seq (kSt_let (kE_ic_0 dX5_looseArcs_2) (kSet_istore_2 dX5_looseArcs_3 (by decide))) (kSt_for (pu := 35) (pt := 15) (kCd_C (kE_iload_2 dX5_looseArcs_4) (kE_get (kE_get (kE_aload_0 dX5_looseArcs_5) lf_RX5_37 dX5_looseArcs_6) lf_RX5_45 dX5_looseArcs_9) (kJf_2 (tgt := 41) dX5_looseArcs_12 (by decide))) (kSt_if (kCd_Z (kE_zald (kE_get (kE_aload_0 dX5_looseArcs_15) lf_RX5_9 dX5_looseArcs_16) (kE_iald (kE_get (kE_get (kE_aload_0 dX5_looseArcs_19) lf_RX5_37 dX5_looseArcs_20) lf_RX5_50 dX5_looseArcs_23) (kE_iload_2 dX5_looseArcs_26) dX5_looseArcs_27) dX5_looseArcs_28) (kZf_1 (tgt := 35) dX5_looseArcs_29 (by decide))) (kSt_inc dX5_looseArcs_32 (by decide)) kSt_skip) (kSt_goto (tgt := 4) (kSt_inc dX5_looseArcs_35 (by decide)) dX5_looseArcs_38 (by decide)))))
  (kSt_ret (tag := 0) (kE_iload_1 dX5_looseArcs_41) ⟨fun _ => dX5_looseArcs_42, fun q => (by cases q), fun q => (by cases q)⟩)))
noncomputable def F_Row_looseArcs : kFn := kF 1 kI s_Row_looseArcs
theorem c_Row_looseArcs : kCon yX5_looseArcs cX5_looseArcs 3 (some .int) { frames := 0, cells := 0, slots := 0, locals := 0 } F_Row_looseArcs := kCon_of kEnds_I (by decide +kernel) (by decide) ⟨0, 0, 0, b_Row_looseArcs⟩
noncomputable def l_Row_holds_1 : kSx := sFor 2 (cC 2 (eI 1) (eGet 10 3 (eGet 5 1 (eR 0))))
  (sIf (cC 1 (eAld 0 (eGet 5 3 (eR 0)) (eAld 0 (eGet 5 2 (eR 0)) (eI 1))) (eI 1)) (sRet 0 (eK (0))) sSkip)
  (sInc 1 (1))
noncomputable def l_Row_holds_2 : kSx := sFor 2 (cC 2 (eI 1) (eGet 10 4 (eGet 5 1 (eR 0))))
  (sTrunc 2 (sSeq (sLet 0 2 (eAld 0 (eGet 10 2 (eGet 5 1 (eR 0))) (eI 1)))
  (sIf (cAnd (cNot (cZ 1 (eAld 1 (eGet 5 0 (eR 0)) (eI 2)))) (cC 3 (eAld 0 (eGet 5 3 (eR 0)) (eAld 0 (eGet 10 0 (eGet 5 1 (eR 0))) (eI 2))) (eAld 0 (eGet 5 3 (eR 0)) (eAld 0 (eGet 10 1 (eGet 5 1 (eR 0))) (eI 2))))) (sRet 0 (eK (0))) sSkip)))
  (sInc 1 (1))
noncomputable def s_Row_holds : kSx :=
  (sSeq (sTrunc 1 (sSeq (sLet 0 1 (eK (0))) l_Row_holds_1))
  (sSeq (sTrunc 1 (sSeq (sLet 0 1 (eK (0))) l_Row_holds_2))
  (sRet 0 (eK (1)))))
abbrev M_Row_holds : kM := (cX5_holds, yX5_holds.cls, 3, { frames := 0, cells := 0, slots := 0, locals := 0 }, (some .boolean))
set_option maxRecDepth 20000 in
theorem b_Row_holds : kSt M_Row_holds 0 0 0 0 s_Row_holds :=
  (kSt_seq (p1 := 36) (kSt_trunc (kSt_seq (kSt_let (kE_ic_0 dX5_holds_0) (kSet_istore_1 dX5_holds_1 (by decide))) (kSt_for (pu := 30) (pt := 13) (kCd_C (kE_iload_1 dX5_holds_2) (kE_get (kE_get (kE_aload_0 dX5_holds_3) lf_RX5_37 dX5_holds_4) lf_RX5_53 dX5_holds_7) (kJf_2 (tgt := 36) dX5_holds_10 (by decide))) (kSt_if (kCd_C (kE_iald (kE_get (kE_aload_0 dX5_holds_13) lf_RX5_19 dX5_holds_14) (kE_iald (kE_get (kE_aload_0 dX5_holds_17) lf_RX5_15 dX5_holds_18) (kE_iload_1 dX5_holds_21) dX5_holds_22) dX5_holds_23) (kE_iload_1 dX5_holds_24) (kJf_1 (tgt := 30) dX5_holds_25 (by decide))) (kSt_ret (tag := 0) (kE_ic_0 dX5_holds_28) ⟨fun _ => dX5_holds_29, fun q => (by cases q), fun q => (by cases q)⟩) kSt_skip) (kSt_goto (tgt := 2) (kSt_inc dX5_holds_30 (by decide)) dX5_holds_33 (by decide)))))
  (kSt_seq (p1 := 107) (kSt_trunc (kSt_seq (kSt_let (kE_ic_0 dX5_holds_36) (kSet_istore_1 dX5_holds_37 (by decide))) (kSt_for (pu := 101) (pt := 49) (kCd_C (kE_iload_1 dX5_holds_38) (kE_get (kE_get (kE_aload_0 dX5_holds_39) lf_RX5_37 dX5_holds_40) lf_RX5_45 dX5_holds_43) (kJf_2 (tgt := 107) dX5_holds_46 (by decide))) (kSt_trunc (kSt_seq (p1 := 59) (kSt_let (kE_iald (kE_get (kE_get (kE_aload_0 dX5_holds_49) lf_RX5_37 dX5_holds_50) lf_RX5_50 dX5_holds_53) (kE_iload_1 dX5_holds_56) dX5_holds_57) (kSet_istore_2 dX5_holds_58 (by decide)))
  (kSt_if (kCd_and (kCd_not (kCd_Z (kE_zald (kE_get (kE_aload_0 dX5_holds_59) lf_RX5_9 dX5_holds_60) (kE_iload_2 dX5_holds_63) dX5_holds_64) (kZt_1 (tgt := 101) dX5_holds_65 (by decide)))) (kCd_C (kE_iald (kE_get (kE_aload_0 dX5_holds_68) lf_RX5_19 dX5_holds_69) (kE_iald (kE_get (kE_get (kE_aload_0 dX5_holds_72) lf_RX5_37 dX5_holds_73) lf_RX5_55 dX5_holds_76) (kE_iload_2 dX5_holds_79) dX5_holds_80) dX5_holds_81) (kE_iald (kE_get (kE_aload_0 dX5_holds_82) lf_RX5_19 dX5_holds_83) (kE_iald (kE_get (kE_get (kE_aload_0 dX5_holds_86) lf_RX5_37 dX5_holds_87) lf_RX5_58 dX5_holds_90) (kE_iload_2 dX5_holds_93) dX5_holds_94) dX5_holds_95) (kJf_3 (tgt := 101) dX5_holds_96 (by decide)))) (kSt_ret (tag := 0) (kE_ic_0 dX5_holds_99) ⟨fun _ => dX5_holds_100, fun q => (by cases q), fun q => (by cases q)⟩) kSt_skip))) (kSt_goto (tgt := 38) (kSt_inc dX5_holds_101 (by decide)) dX5_holds_104 (by decide)))))
  (kSt_ret (tag := 0) (kE_ic_1 dX5_holds_107) ⟨fun _ => dX5_holds_108, fun q => (by cases q), fun q => (by cases q)⟩)))
noncomputable def F_Row_holds : kFn := kF 1 kZ s_Row_holds
theorem c_Row_holds : kCon yX5_holds cX5_holds 3 (some .boolean) { frames := 0, cells := 0, slots := 0, locals := 0 } F_Row_holds := kCon_of kEnds_Z (by decide +kernel) (by decide) ⟨0, 0, 0, b_Row_holds⟩
noncomputable def s_Row_nodeAdded : kSx :=
  (sSeq (sSeq (sAst 0 (eGet 5 2 (eR 0)) (eI 1) (eI 1))
  (sAst 0 (eGet 5 3 (eR 0)) (eI 1) (eI 1))) sRetV)
abbrev M_Row_nodeAdded : kM := (cX5_nodeAdded, yX5_nodeAdded.cls, 2, { frames := 0, cells := 0, slots := 0, locals := 0 }, none)
set_option maxRecDepth 20000 in
theorem b_Row_nodeAdded : kSt M_Row_nodeAdded 0 0 0 0 s_Row_nodeAdded :=
  (kSt_seq (kSt_seq (p1 := 7) (kSt_iast (kE_get (kE_aload_0 dX5_nodeAdded_0) lf_RX5_15 dX5_nodeAdded_1) (kE_iload_1 dX5_nodeAdded_4) (kE_iload_1 dX5_nodeAdded_5) dX5_nodeAdded_6)
  (kSt_iast (kE_get (kE_aload_0 dX5_nodeAdded_7) lf_RX5_19 dX5_nodeAdded_8) (kE_iload_1 dX5_nodeAdded_11) (kE_iload_1 dX5_nodeAdded_12) dX5_nodeAdded_13)) (kSt_retV dX5_nodeAdded_14))
noncomputable def F_Row_nodeAdded : kFn := kF 2 kN s_Row_nodeAdded
theorem c_Row_nodeAdded : kCon yX5_nodeAdded cX5_nodeAdded 2 none { frames := 0, cells := 0, slots := 0, locals := 0 } F_Row_nodeAdded := kCon_of kEnds_V (by decide +kernel) (by decide) ⟨0, 0, 0, b_Row_nodeAdded⟩
noncomputable def l_Row_spread_1 : kSx := sFor 9 (cC 2 (eI 8) (eAld 0 (eGet 1 1 (eR 2)) (eBin kAdd (eI 7) (eK (1)))))
  (sTrunc 9 (sSeq (sLet 0 9 (eAld 0 (eGet 1 0 (eR 2)) (eI 8)))
  (sSeq (sLet 0 10 (eAld 0 (eR 3) (eI 9)))
  (sIf (cAnd (cNot (cZ 1 (eAld 1 (eGet 5 0 (eR 0)) (eI 9)))) (cC 0 (eAld 0 (eR 4) (eI 10)) (eK (-1)))) (sSeq (sAst 0 (eR 4) (eI 10) (eBin kAdd (eAld 0 (eR 4) (eI 7)) (eK (1))))
  (sSeq (sAst 0 (eGet 5 7 (eR 0)) (eI 5) (eI 10))
  (sInc 5 (1)))) sSkip))))
  (sInc 8 (1))
noncomputable def l_Row_spread_2 : kSx := sFor 7 (cAnd (cC 2 (eI 6) (eK (300))) (cC 2 (eI 6) (eI 5)))
  (sTrunc 7 (sSeq (sLet 0 7 (eAld 0 (eGet 5 7 (eR 0)) (eI 6)))
  (sTrunc 8 (sSeq (sLet 0 8 (eAld 0 (eGet 1 1 (eR 2)) (eI 7))) l_Row_spread_1))))
  (sInc 6 (1))
noncomputable def s_Row_spread : kSx :=
  (sSeq (sSeq (sCallS F_Ar_fill (eSnoc (eSnoc eNil (eR 4)) (eK (-1))))
  (sSeq (sAst 0 (eR 4) (eI 1) (eK (0)))
  (sSeq (sAst 0 (eGet 5 7 (eR 0)) (eK (0)) (eI 1))
  (sSeq (sLet 0 5 (eK (1)))
  (sTrunc 6 (sSeq (sLet 0 6 (eK (0))) l_Row_spread_2)))))) sRetV)
abbrev M_Row_spread : kM := (cX5_spread, yX5_spread.cls, 11, { frames := 1, cells := 0, slots := 0, locals := 23 }, none)
set_option maxRecDepth 20000 in
theorem b_Row_spread : kSt M_Row_spread 0 0 0 0 s_Row_spread :=
  (kSt_seq (kSt_seq (p1 := 6) (kSt_callS (kEs_snoc (kEs_snoc kEs_nil (kE_aload dX5_spread_0)) (kE_ic_m1 dX5_spread_2)) dX5_spread_3 c_Ar_fill mv_Ar_fill lm_RX5_96 ⟨rfl, rfl, by decide, by decide⟩)
  (kSt_seq (p1 := 11) (kSt_iast (kE_aload dX5_spread_6) (kE_iload_1 dX5_spread_8) (kE_ic_0 dX5_spread_9) dX5_spread_10)
  (kSt_seq (p1 := 18) (kSt_iast (kE_get (kE_aload_0 dX5_spread_11) lf_RX5_31 dX5_spread_12) (kE_ic_0 dX5_spread_15) (kE_iload_1 dX5_spread_16) dX5_spread_17)
  (kSt_seq (p1 := 21) (kSt_let (kE_ic_1 dX5_spread_18) (kSet_istore dX5_spread_19 (by decide)))
  (kSt_trunc (kSt_seq (kSt_let (kE_ic_0 dX5_spread_21) (kSet_istore dX5_spread_22 (by decide))) (kSt_for (pu := 135) (pt := 39) (kCd_and (kCd_C (kE_iload dX5_spread_24) (kE_sipush dX5_spread_26 (by rfl) ⟨by decide, by decide⟩) (kJf_2 (tgt := 141) dX5_spread_29 (by decide))) (kCd_C (kE_iload dX5_spread_32) (kE_iload dX5_spread_34) (kJf_2 (tgt := 141) dX5_spread_36 (by decide)))) (kSt_trunc (kSt_seq (p1 := 48) (kSt_let (kE_iald (kE_get (kE_aload_0 dX5_spread_39) lf_RX5_31 dX5_spread_40) (kE_iload dX5_spread_43) dX5_spread_45) (kSet_istore dX5_spread_46 (by decide)))
  (kSt_trunc (kSt_seq (kSt_let (kE_iald (kE_get (kE_aload_2 dX5_spread_48) lf_RX5_77 dX5_spread_49) (kE_iload dX5_spread_52) dX5_spread_54) (kSet_istore dX5_spread_55 (by decide))) (kSt_for (pu := 129) (pt := 71) (kCd_C (kE_iload dX5_spread_57) (kE_iald (kE_get (kE_aload_2 dX5_spread_59) lf_RX5_77 dX5_spread_60) (kE_bin (kE_iload dX5_spread_63) (kE_ic_1 dX5_spread_65) (kOp_add dX5_spread_66)) dX5_spread_67) (kJf_2 (tgt := 135) dX5_spread_68 (by decide))) (kSt_trunc (kSt_seq (p1 := 80) (kSt_let (kE_iald (kE_get (kE_aload_2 dX5_spread_71) lf_RX5_82 dX5_spread_72) (kE_iload dX5_spread_75) dX5_spread_77) (kSet_istore dX5_spread_78 (by decide)))
  (kSt_seq (p1 := 86) (kSt_let (kE_iald (kE_aload_3 dX5_spread_80) (kE_iload dX5_spread_81) dX5_spread_83) (kSet_istore dX5_spread_84 (by decide)))
  (kSt_if (kCd_and (kCd_not (kCd_Z (kE_zald (kE_get (kE_aload_0 dX5_spread_86) lf_RX5_9 dX5_spread_87) (kE_iload dX5_spread_90) dX5_spread_92) (kZt_1 (tgt := 129) dX5_spread_93 (by decide)))) (kCd_C (kE_iald (kE_aload dX5_spread_96) (kE_iload dX5_spread_98) dX5_spread_100) (kE_ic_m1 dX5_spread_101) (kJf_0 (tgt := 129) dX5_spread_102 (by decide)))) (kSt_seq (p1 := 117) (kSt_iast (kE_aload dX5_spread_105) (kE_iload dX5_spread_107) (kE_bin (kE_iald (kE_aload dX5_spread_109) (kE_iload dX5_spread_111) dX5_spread_113) (kE_ic_1 dX5_spread_114) (kOp_add dX5_spread_115)) dX5_spread_116)
  (kSt_seq (p1 := 126) (kSt_iast (kE_get (kE_aload_0 dX5_spread_117) lf_RX5_31 dX5_spread_118) (kE_iload dX5_spread_121) (kE_iload dX5_spread_123) dX5_spread_125)
  (kSt_inc dX5_spread_126 (by decide)))) kSt_skip)))) (kSt_goto (tgt := 57) (kSt_inc dX5_spread_129 (by decide)) dX5_spread_132 (by decide))))))) (kSt_goto (tgt := 24) (kSt_inc dX5_spread_135 (by decide)) dX5_spread_138 (by decide))))))))) (kSt_retV dX5_spread_141))
noncomputable def F_Row_spread : kFn := kF 5 kN s_Row_spread
theorem c_Row_spread : kCon yX5_spread cX5_spread 11 none { frames := 1, cells := 0, slots := 0, locals := 23 } F_Row_spread := kCon_of kEnds_V (by decide +kernel) (by decide) ⟨0, 0, 0, b_Row_spread⟩
noncomputable def s_Row_reaches : kSx :=
  (sSeq (sIf (cC 4 (eAld 0 (eGet 5 3 (eR 0)) (eI 1)) (eAld 0 (eGet 5 3 (eR 0)) (eI 2))) (sRet 0 (eK (0))) sSkip)
  (sSeq (sCall 5 F_Row_spread (eSnoc (eSnoc (eSnoc (eSnoc (eSnoc eNil (eR 0)) (eI 2)) (eGet 10 7 (eGet 5 1 (eR 0)))) (eGet 10 0 (eGet 5 1 (eR 0)))) (eGet 5 5 (eR 0))))
  (sRet 0 (eIf (cC 1 (eAld 0 (eGet 5 5 (eR 0)) (eI 1)) (eK (-1))) (eK (1)) (eK (0))))))
abbrev M_Row_reaches : kM := (cX5_reaches, yX5_reaches.cls, 3, { frames := 2, cells := 0, slots := 0, locals := 53 }, (some .boolean))
set_option maxRecDepth 20000 in
theorem b_Row_reaches : kSt M_Row_reaches 0 0 0 0 s_Row_reaches :=
  (kSt_seq (p1 := 17) (kSt_if (kCd_C (kE_iald (kE_get (kE_aload_0 dX5_reaches_0) lf_RX5_19 dX5_reaches_1) (kE_iload_1 dX5_reaches_4) dX5_reaches_5) (kE_iald (kE_get (kE_aload_0 dX5_reaches_6) lf_RX5_19 dX5_reaches_7) (kE_iload_2 dX5_reaches_10) dX5_reaches_11) (kJf_4 (tgt := 17) dX5_reaches_12 (by decide))) (kSt_ret (tag := 0) (kE_ic_0 dX5_reaches_15) ⟨fun _ => dX5_reaches_16, fun q => (by cases q), fun q => (by cases q)⟩) kSt_skip)
  (kSt_seq (p1 := 40) (kSt_call (kEs_snoc (kEs_snoc (kEs_snoc (kEs_snoc (kEs_snoc kEs_nil (kE_aload_0 dX5_reaches_17)) (kE_iload_2 dX5_reaches_18)) (kE_get (kE_get (kE_aload_0 dX5_reaches_19) lf_RX5_37 dX5_reaches_20) lf_RX5_85 dX5_reaches_23)) (kE_get (kE_get (kE_aload_0 dX5_reaches_26) lf_RX5_37 dX5_reaches_27) lf_RX5_55 dX5_reaches_30)) (kE_get (kE_aload_0 dX5_reaches_33) lf_RX5_25 dX5_reaches_34)) dX5_reaches_37 c_Row_spread mv_Row_spread lm_RX5_88 ⟨rfl, rfl, by decide, by decide⟩)
  (kSt_ret (tag := 0) (kE_if (kCd_C (kE_iald (kE_get (kE_aload_0 dX5_reaches_40) lf_RX5_25 dX5_reaches_41) (kE_iload_1 dX5_reaches_44) dX5_reaches_45) (kE_ic_m1 dX5_reaches_46) (kJf_1 (tgt := 54) dX5_reaches_47 (by decide))) (kE_goto (tgt := 55) (kE_ic_1 dX5_reaches_50) dX5_reaches_51 (by decide)) (kE_ic_0 dX5_reaches_54)) ⟨fun _ => dX5_reaches_55, fun q => (by cases q), fun q => (by cases q)⟩)))
noncomputable def F_Row_reaches : kFn := kF 3 kZ s_Row_reaches
theorem c_Row_reaches : kCon yX5_reaches cX5_reaches 3 (some .boolean) { frames := 2, cells := 0, slots := 0, locals := 53 } F_Row_reaches := kCon_of kEnds_Z (by decide +kernel) (by decide) ⟨0, 0, 0, b_Row_reaches⟩
noncomputable def l_Row_nextOnRing_1 : kSx := sFor 5 (cC 2 (eI 4) (eAld 0 (eGet 1 1 (eR 3)) (eBin kAdd (eI 1) (eK (1)))))
  (sTrunc 5 (sSeq (sLet 0 5 (eAld 0 (eGet 1 0 (eR 3)) (eI 4)))
  (sIf (cAnd (cNot (cZ 1 (eAld 1 (eGet 5 0 (eR 0)) (eI 5)))) (cC 0 (eAld 0 (eGet 5 5 (eR 0)) (eAld 0 (eGet 10 1 (eGet 5 1 (eR 0))) (eI 5))) (eI 2))) (sRet 0 (eI 5)) sSkip)))
  (sInc 4 (1))
noncomputable def s_Row_nextOnRing : kSx :=
  (sSeq (sLet 1 3 (eGet 10 6 (eGet 5 1 (eR 0))))
  (sSeq (sTrunc 4 (sSeq (sLet 0 4 (eAld 0 (eGet 1 1 (eR 3)) (eI 1))) l_Row_nextOnRing_1))
  (sRet 0 (eK (-1)))))
abbrev M_Row_nextOnRing : kM := (cX5_nextOnRing, yX5_nextOnRing.cls, 6, { frames := 0, cells := 0, slots := 0, locals := 0 }, (some .int))
set_option maxRecDepth 20000 in
theorem b_Row_nextOnRing : kSt M_Row_nextOnRing 0 0 0 0 s_Row_nextOnRing :=
  (kSt_seq (p1 := 8) (kSt_let (kE_get (kE_get (kE_aload_0 dX5_nextOnRing_0) lf_RX5_37 dX5_nextOnRing_1) lf_RX5_73 dX5_nextOnRing_4) (kSet_astore_3 dX5_nextOnRing_7 (by decide)))
  (kSt_seq (p1 := 76) (kSt_trunc (kSt_seq (kSt_let (kE_iald (kE_get (kE_aload_3 dX5_nextOnRing_8) lf_RX5_77 dX5_nextOnRing_9) (kE_iload_1 dX5_nextOnRing_12) dX5_nextOnRing_13) (kSet_istore dX5_nextOnRing_14 (by decide))) (kSt_for (pu := 70) (pt := 29) (kCd_C (kE_iload dX5_nextOnRing_16) (kE_iald (kE_get (kE_aload_3 dX5_nextOnRing_18) lf_RX5_77 dX5_nextOnRing_19) (kE_bin (kE_iload_1 dX5_nextOnRing_22) (kE_ic_1 dX5_nextOnRing_23) (kOp_add dX5_nextOnRing_24)) dX5_nextOnRing_25) (kJf_2 (tgt := 76) dX5_nextOnRing_26 (by decide))) (kSt_trunc (kSt_seq (p1 := 38) (kSt_let (kE_iald (kE_get (kE_aload_3 dX5_nextOnRing_29) lf_RX5_82 dX5_nextOnRing_30) (kE_iload dX5_nextOnRing_33) dX5_nextOnRing_35) (kSet_istore dX5_nextOnRing_36 (by decide)))
  (kSt_if (kCd_and (kCd_not (kCd_Z (kE_zald (kE_get (kE_aload_0 dX5_nextOnRing_38) lf_RX5_9 dX5_nextOnRing_39) (kE_iload dX5_nextOnRing_42) dX5_nextOnRing_44) (kZt_1 (tgt := 70) dX5_nextOnRing_45 (by decide)))) (kCd_C (kE_iald (kE_get (kE_aload_0 dX5_nextOnRing_48) lf_RX5_25 dX5_nextOnRing_49) (kE_iald (kE_get (kE_get (kE_aload_0 dX5_nextOnRing_52) lf_RX5_37 dX5_nextOnRing_53) lf_RX5_58 dX5_nextOnRing_56) (kE_iload dX5_nextOnRing_59) dX5_nextOnRing_61) dX5_nextOnRing_62) (kE_iload_2 dX5_nextOnRing_63) (kJf_0 (tgt := 70) dX5_nextOnRing_64 (by decide)))) (kSt_ret (tag := 0) (kE_iload dX5_nextOnRing_67) ⟨fun _ => dX5_nextOnRing_69, fun q => (by cases q), fun q => (by cases q)⟩) kSt_skip))) (kSt_goto (tgt := 16) (kSt_inc dX5_nextOnRing_70 (by decide)) dX5_nextOnRing_73 (by decide)))))
  (kSt_ret (tag := 0) (kE_ic_m1 dX5_nextOnRing_76) ⟨fun _ => dX5_nextOnRing_77, fun q => (by cases q), fun q => (by cases q)⟩)))
noncomputable def F_Row_nextOnRing : kFn := kF 3 kI s_Row_nextOnRing
theorem c_Row_nextOnRing : kCon yX5_nextOnRing cX5_nextOnRing 6 (some .int) { frames := 0, cells := 0, slots := 0, locals := 0 } F_Row_nextOnRing := kCon_of kEnds_I (by decide +kernel) (by decide) ⟨0, 0, 0, b_Row_nextOnRing⟩
noncomputable def l_Row_tellRing_1 : kSx := sFor 5 (cZ 4 (eI 4))
  (sTrunc 5 (sSeq (sLet 0 5 (eCall 5 F_Row_nextOnRing (eSnoc (eSnoc (eSnoc eNil (eR 0)) (eI 3)) (eBin kSub (eI 4) (eK (1))))))
  (sSeq (sIf (cC 0 (eI 5) (eK (-1))) (sRet 0 (eK (1))) sSkip)
  (sSeq (sAst 0 (eGet 5 8 (eR 0)) (eGet 5 9 (eR 0)) (eI 5))
  (sSeq (sPutOp 5 9 (eR 0) kAdd (eK (1)))
  (sLet 0 3 (eAld 0 (eGet 10 1 (eGet 5 1 (eR 0))) (eI 5))))))))
  (sInc 4 (-1))
noncomputable def s_Row_tellRing : kSx :=
  (sSeq (sIf (cC 0 (eI 1) (eI 2)) (sSeq (sPut 5 9 (eR 0) (eK (0)))
  (sRet 0 (eK (1)))) sSkip)
  (sSeq (sIf (cNot (cZ 1 (eCall 5 F_Row_reaches (eSnoc (eSnoc (eSnoc eNil (eR 0)) (eI 2)) (eI 1))))) (sRet 0 (eK (0))) sSkip)
  (sSeq (sLet 0 3 (eI 2))
  (sSeq (sPut 5 9 (eR 0) (eK (0)))
  (sSeq (sTrunc 4 (sSeq (sLet 0 4 (eAld 0 (eGet 5 5 (eR 0)) (eI 2))) l_Row_tellRing_1))
  (sRet 0 (eK (1))))))))
abbrev M_Row_tellRing : kM := (cX5_tellRing, yX5_tellRing.cls, 6, { frames := 3, cells := 0, slots := 0, locals := 75 }, (some .boolean))
set_option maxRecDepth 20000 in
theorem b_Row_tellRing : kSt M_Row_tellRing 0 0 0 0 s_Row_tellRing :=
  (kSt_seq (p1 := 12) (kSt_if (kCd_C (kE_iload_1 dX5_tellRing_0) (kE_iload_2 dX5_tellRing_1) (kJf_0 (tgt := 12) dX5_tellRing_2 (by decide))) (kSt_seq (p1 := 10) (kSt_put (kE_aload_0 dX5_tellRing_5) (kE_ic_0 dX5_tellRing_6) lp_RX5_41 dX5_tellRing_7)
  (kSt_ret (tag := 0) (kE_ic_1 dX5_tellRing_10) ⟨fun _ => dX5_tellRing_11, fun q => (by cases q), fun q => (by cases q)⟩)) kSt_skip)
  (kSt_seq (p1 := 23) (kSt_if (kCd_not (kCd_Z (kE_call (kEs_snoc (kEs_snoc (kEs_snoc kEs_nil (kE_aload_0 dX5_tellRing_12)) (kE_iload_2 dX5_tellRing_13)) (kE_iload_1 dX5_tellRing_14)) dX5_tellRing_15 c_Row_reaches mv_Row_reaches lm_RX5_61 ⟨rfl, rfl, by decide, by decide⟩ (by decide)) (kZt_1 (tgt := 23) dX5_tellRing_18 (by decide)))) (kSt_ret (tag := 0) (kE_ic_0 dX5_tellRing_21) ⟨fun _ => dX5_tellRing_22, fun q => (by cases q), fun q => (by cases q)⟩) kSt_skip)
  (kSt_seq (p1 := 25) (kSt_let (kE_iload_2 dX5_tellRing_23) (kSet_istore_3 dX5_tellRing_24 (by decide)))
  (kSt_seq (p1 := 30) (kSt_put (kE_aload_0 dX5_tellRing_25) (kE_ic_0 dX5_tellRing_26) lp_RX5_41 dX5_tellRing_27)
  (kSt_seq (p1 := 100) (kSt_trunc (kSt_seq (kSt_let (kE_iald (kE_get (kE_aload_0 dX5_tellRing_30) lf_RX5_25 dX5_tellRing_31) (kE_iload_2 dX5_tellRing_34) dX5_tellRing_35) (kSet_istore dX5_tellRing_36 (by decide))) (kSt_for (pu := 94) (pt := 43) (kCd_Z (kE_iload dX5_tellRing_38) (kZf_4 (tgt := 100) dX5_tellRing_40 (by decide))) (kSt_trunc (kSt_seq (p1 := 54) (kSt_let (kE_call (kEs_snoc (kEs_snoc (kEs_snoc kEs_nil (kE_aload_0 dX5_tellRing_43)) (kE_iload_3 dX5_tellRing_44)) (kE_bin (kE_iload dX5_tellRing_45) (kE_ic_1 dX5_tellRing_47) (kOp_sub dX5_tellRing_48))) dX5_tellRing_49 c_Row_nextOnRing mv_Row_nextOnRing lm_RX5_65 ⟨rfl, rfl, by decide, by decide⟩ (by decide)) (kSet_istore dX5_tellRing_52 (by decide)))
  (kSt_seq (p1 := 62) (kSt_if (kCd_C (kE_iload dX5_tellRing_54) (kE_ic_m1 dX5_tellRing_56) (kJf_0 (tgt := 62) dX5_tellRing_57 (by decide))) (kSt_ret (tag := 0) (kE_ic_1 dX5_tellRing_60) ⟨fun _ => dX5_tellRing_61, fun q => (by cases q), fun q => (by cases q)⟩) kSt_skip)
  (kSt_seq (p1 := 73) (kSt_iast (kE_get (kE_aload_0 dX5_tellRing_62) lf_RX5_34 dX5_tellRing_63) (kE_get (kE_aload_0 dX5_tellRing_66) lf_RX5_41 dX5_tellRing_67) (kE_iload dX5_tellRing_70) dX5_tellRing_72)
  (kSt_seq (p1 := 83) (kSt_putOp (kE_aload_0 dX5_tellRing_73) dX5_tellRing_74 lf_RX5_41 dX5_tellRing_75 (kE_ic_1 dX5_tellRing_78) (kOp_add dX5_tellRing_79) lp_RX5_41 dX5_tellRing_80)
  (kSt_let (kE_iald (kE_get (kE_get (kE_aload_0 dX5_tellRing_83) lf_RX5_37 dX5_tellRing_84) lf_RX5_58 dX5_tellRing_87) (kE_iload dX5_tellRing_90) dX5_tellRing_92) (kSet_istore_3 dX5_tellRing_93 (by decide)))))))) (kSt_goto (tgt := 38) (kSt_inc dX5_tellRing_94 (by decide)) dX5_tellRing_97 (by decide)))))
  (kSt_ret (tag := 0) (kE_ic_1 dX5_tellRing_100) ⟨fun _ => dX5_tellRing_101, fun q => (by cases q), fun q => (by cases q)⟩))))))
noncomputable def F_Row_tellRing : kFn := kF 3 kZ s_Row_tellRing
theorem c_Row_tellRing : kCon yX5_tellRing cX5_tellRing 6 (some .boolean) { frames := 3, cells := 0, slots := 0, locals := 75 } F_Row_tellRing := kCon_of kEnds_Z (by decide +kernel) (by decide) ⟨0, 0, 0, b_Row_tellRing⟩
noncomputable def l_Row_pick_1 : kSx := sFor 7 (cAnd (cC 5 (eI 6) (eI 2)) (cC 2 (eI 5) (eK (300))))
  (sIf (cC 1 (eAld 0 (eR 3) (eAld 0 (eGet 5 2 (eR 0)) (eI 6))) (eK (-1))) (sSeq (sAst 0 (eGet 5 6 (eR 0)) (eI 5) (eAld 0 (eGet 5 2 (eR 0)) (eI 6)))
  (sInc 5 (1))) sSkip)
  (sInc 6 (1))
noncomputable def s_Row_pick : kSx :=
  (sSeq (sLet 0 5 (eI 4))
  (sSeq (sTrunc 6 (sSeq (sLet 0 6 (eI 1)) l_Row_pick_1))
  (sRet 0 (eI 5))))
abbrev M_Row_pick : kM := (cX5_pick, yX5_pick.cls, 7, { frames := 0, cells := 0, slots := 0, locals := 0 }, (some .int))
set_option maxRecDepth 20000 in
theorem b_Row_pick : kSt M_Row_pick 0 0 0 0 s_Row_pick :=
  (kSt_seq (p1 := 4) (kSt_let (kE_iload dX5_pick_0) (kSet_istore dX5_pick_2 (by decide)))
  (kSt_seq (p1 := 57) (kSt_trunc (kSt_seq (kSt_let (kE_iload_1 dX5_pick_4) (kSet_istore dX5_pick_5 (by decide))) (kSt_for (pu := 51) (pt := 21) (kCd_and (kCd_C (kE_iload dX5_pick_7) (kE_iload_2 dX5_pick_9) (kJf_5 (tgt := 57) dX5_pick_10 (by decide))) (kCd_C (kE_iload dX5_pick_13) (kE_sipush dX5_pick_15 (by rfl) ⟨by decide, by decide⟩) (kJf_2 (tgt := 57) dX5_pick_18 (by decide)))) (kSt_if (kCd_C (kE_iald (kE_aload_3 dX5_pick_21) (kE_iald (kE_get (kE_aload_0 dX5_pick_22) lf_RX5_15 dX5_pick_23) (kE_iload dX5_pick_26) dX5_pick_28) dX5_pick_29) (kE_ic_m1 dX5_pick_30) (kJf_1 (tgt := 51) dX5_pick_31 (by decide))) (kSt_seq (p1 := 48) (kSt_iast (kE_get (kE_aload_0 dX5_pick_34) lf_RX5_28 dX5_pick_35) (kE_iload dX5_pick_38) (kE_iald (kE_get (kE_aload_0 dX5_pick_40) lf_RX5_15 dX5_pick_41) (kE_iload dX5_pick_44) dX5_pick_46) dX5_pick_47)
  (kSt_inc dX5_pick_48 (by decide))) kSt_skip) (kSt_goto (tgt := 7) (kSt_inc dX5_pick_51 (by decide)) dX5_pick_54 (by decide)))))
  (kSt_ret (tag := 0) (kE_iload dX5_pick_57) ⟨fun _ => dX5_pick_59, fun q => (by cases q), fun q => (by cases q)⟩)))
noncomputable def F_Row_pick : kFn := kF 5 kI s_Row_pick
theorem c_Row_pick : kCon yX5_pick cX5_pick 7 (some .int) { frames := 0, cells := 0, slots := 0, locals := 0 } F_Row_pick := kCon_of kEnds_I (by decide +kernel) (by decide) ⟨0, 0, 0, b_Row_pick⟩
noncomputable def l_Row_setRight_1 : kSx := sFor 8 (cAnd (cC 5 (eI 7) (eI 4)) (cC 2 (eI 6) (eI 5)))
  (sTrunc 8 (sSeq (sLet 0 8 (eAld 0 (eGet 5 2 (eR 0)) (eI 7)))
  (sIf (cOr (cC 1 (eAld 0 (eGet 5 5 (eR 0)) (eI 8)) (eK (-1))) (cC 1 (eAld 0 (eGet 5 4 (eR 0)) (eI 8)) (eK (-1)))) (sSeq (sAst 0 (eGet 5 2 (eR 0)) (eI 7) (eAld 0 (eGet 5 6 (eR 0)) (eI 6)))
  (sSeq (sAst 0 (eGet 5 3 (eR 0)) (eAld 0 (eGet 5 6 (eR 0)) (eI 6)) (eI 7))
  (sInc 6 (1)))) sSkip)))
  (sInc 7 (1))
noncomputable def s_Row_setRight : kSx :=
  (sSeq (sSeq (sLet 0 3 (eAld 0 (eGet 5 3 (eR 0)) (eI 2)))
  (sSeq (sLet 0 4 (eAld 0 (eGet 5 3 (eR 0)) (eI 1)))
  (sSeq (sIf (cC 2 (eI 4) (eI 3)) sRetV sSkip)
  (sSeq (sCall 5 F_Row_spread (eSnoc (eSnoc (eSnoc (eSnoc (eSnoc eNil (eR 0)) (eI 2)) (eGet 10 6 (eGet 5 1 (eR 0)))) (eGet 10 1 (eGet 5 1 (eR 0)))) (eGet 5 4 (eR 0))))
  (sSeq (sCall 5 F_Row_spread (eSnoc (eSnoc (eSnoc (eSnoc (eSnoc eNil (eR 0)) (eI 1)) (eGet 10 7 (eGet 5 1 (eR 0)))) (eGet 10 0 (eGet 5 1 (eR 0)))) (eGet 5 5 (eR 0))))
  (sSeq (sLet 0 5 (eCall 5 F_Row_pick (eSnoc (eSnoc (eSnoc (eSnoc (eSnoc eNil (eR 0)) (eI 3)) (eI 4)) (eGet 5 5 (eR 0))) (eK (0)))))
  (sSeq (sLet 0 5 (eCall 5 F_Row_pick (eSnoc (eSnoc (eSnoc (eSnoc (eSnoc eNil (eR 0)) (eI 3)) (eI 4)) (eGet 5 4 (eR 0))) (eI 5))))
  (sSeq (sLet 0 6 (eK (0)))
  (sTrunc 7 (sSeq (sLet 0 7 (eI 3)) l_Row_setRight_1)))))))))) sRetV)
abbrev M_Row_setRight : kM := (cX5_setRight, yX5_setRight.cls, 9, { frames := 2, cells := 0, slots := 0, locals := 53 }, none)
set_option maxRecDepth 20000 in
theorem b_Row_setRight : kSt M_Row_setRight 0 0 0 0 s_Row_setRight :=
  (kSt_seq (kSt_seq (p1 := 7) (kSt_let (kE_iald (kE_get (kE_aload_0 dX5_setRight_0) lf_RX5_19 dX5_setRight_1) (kE_iload_2 dX5_setRight_4) dX5_setRight_5) (kSet_istore_3 dX5_setRight_6 (by decide)))
  (kSt_seq (p1 := 15) (kSt_let (kE_iald (kE_get (kE_aload_0 dX5_setRight_7) lf_RX5_19 dX5_setRight_8) (kE_iload_1 dX5_setRight_11) dX5_setRight_12) (kSet_istore dX5_setRight_13 (by decide)))
  (kSt_seq (p1 := 22) (kSt_if (kCd_C (kE_iload dX5_setRight_15) (kE_iload_3 dX5_setRight_17) (kJf_2 (tgt := 22) dX5_setRight_18 (by decide))) (kSt_retV dX5_setRight_21) kSt_skip)
  (kSt_seq (p1 := 45) (kSt_call (kEs_snoc (kEs_snoc (kEs_snoc (kEs_snoc (kEs_snoc kEs_nil (kE_aload_0 dX5_setRight_22)) (kE_iload_2 dX5_setRight_23)) (kE_get (kE_get (kE_aload_0 dX5_setRight_24) lf_RX5_37 dX5_setRight_25) lf_RX5_73 dX5_setRight_28)) (kE_get (kE_get (kE_aload_0 dX5_setRight_31) lf_RX5_37 dX5_setRight_32) lf_RX5_58 dX5_setRight_35)) (kE_get (kE_aload_0 dX5_setRight_38) lf_RX5_22 dX5_setRight_39)) dX5_setRight_42 c_Row_spread mv_Row_spread lm_RX5_88 ⟨rfl, rfl, by decide, by decide⟩)
  (kSt_seq (p1 := 68) (kSt_call (kEs_snoc (kEs_snoc (kEs_snoc (kEs_snoc (kEs_snoc kEs_nil (kE_aload_0 dX5_setRight_45)) (kE_iload_1 dX5_setRight_46)) (kE_get (kE_get (kE_aload_0 dX5_setRight_47) lf_RX5_37 dX5_setRight_48) lf_RX5_85 dX5_setRight_51)) (kE_get (kE_get (kE_aload_0 dX5_setRight_54) lf_RX5_37 dX5_setRight_55) lf_RX5_55 dX5_setRight_58)) (kE_get (kE_aload_0 dX5_setRight_61) lf_RX5_25 dX5_setRight_62)) dX5_setRight_65 c_Row_spread mv_Row_spread lm_RX5_88 ⟨rfl, rfl, by decide, by decide⟩)
  (kSt_seq (p1 := 82) (kSt_let (kE_call (kEs_snoc (kEs_snoc (kEs_snoc (kEs_snoc (kEs_snoc kEs_nil (kE_aload_0 dX5_setRight_68)) (kE_iload_3 dX5_setRight_69)) (kE_iload dX5_setRight_70)) (kE_get (kE_aload_0 dX5_setRight_72) lf_RX5_25 dX5_setRight_73)) (kE_ic_0 dX5_setRight_76)) dX5_setRight_77 c_Row_pick mv_Row_pick lm_RX5_92 ⟨rfl, rfl, by decide, by decide⟩ (by decide)) (kSet_istore dX5_setRight_80 (by decide)))
  (kSt_seq (p1 := 97) (kSt_let (kE_call (kEs_snoc (kEs_snoc (kEs_snoc (kEs_snoc (kEs_snoc kEs_nil (kE_aload_0 dX5_setRight_82)) (kE_iload_3 dX5_setRight_83)) (kE_iload dX5_setRight_84)) (kE_get (kE_aload_0 dX5_setRight_86) lf_RX5_22 dX5_setRight_87)) (kE_iload dX5_setRight_90)) dX5_setRight_92 c_Row_pick mv_Row_pick lm_RX5_92 ⟨rfl, rfl, by decide, by decide⟩ (by decide)) (kSet_istore dX5_setRight_95 (by decide)))
  (kSt_seq (p1 := 100) (kSt_let (kE_ic_0 dX5_setRight_97) (kSet_istore dX5_setRight_98 (by decide)))
  (kSt_trunc (kSt_seq (kSt_let (kE_iload_3 dX5_setRight_100) (kSet_istore dX5_setRight_101 (by decide))) (kSt_for (pu := 179) (pt := 117) (kCd_and (kCd_C (kE_iload dX5_setRight_103) (kE_iload dX5_setRight_105) (kJf_5 (tgt := 185) dX5_setRight_107 (by decide))) (kCd_C (kE_iload dX5_setRight_110) (kE_iload dX5_setRight_112) (kJf_2 (tgt := 185) dX5_setRight_114 (by decide)))) (kSt_trunc (kSt_seq (p1 := 126) (kSt_let (kE_iald (kE_get (kE_aload_0 dX5_setRight_117) lf_RX5_15 dX5_setRight_118) (kE_iload dX5_setRight_121) dX5_setRight_123) (kSet_istore dX5_setRight_124 (by decide)))
  (kSt_if (kCd_or (kCd_C (kE_iald (kE_get (kE_aload_0 dX5_setRight_126) lf_RX5_25 dX5_setRight_127) (kE_iload dX5_setRight_130) dX5_setRight_132) (kE_ic_m1 dX5_setRight_133) (kJt_1 (tgt := 148) dX5_setRight_134 (by decide))) (kCd_C (kE_iald (kE_get (kE_aload_0 dX5_setRight_137) lf_RX5_22 dX5_setRight_138) (kE_iload dX5_setRight_141) dX5_setRight_143) (kE_ic_m1 dX5_setRight_144) (kJf_1 (tgt := 179) dX5_setRight_145 (by decide)))) (kSt_seq (p1 := 162) (kSt_iast (kE_get (kE_aload_0 dX5_setRight_148) lf_RX5_15 dX5_setRight_149) (kE_iload dX5_setRight_152) (kE_iald (kE_get (kE_aload_0 dX5_setRight_154) lf_RX5_28 dX5_setRight_155) (kE_iload dX5_setRight_158) dX5_setRight_160) dX5_setRight_161)
  (kSt_seq (p1 := 176) (kSt_iast (kE_get (kE_aload_0 dX5_setRight_162) lf_RX5_19 dX5_setRight_163) (kE_iald (kE_get (kE_aload_0 dX5_setRight_166) lf_RX5_28 dX5_setRight_167) (kE_iload dX5_setRight_170) dX5_setRight_172) (kE_iload dX5_setRight_173) dX5_setRight_175)
  (kSt_inc dX5_setRight_176 (by decide)))) kSt_skip))) (kSt_goto (tgt := 103) (kSt_inc dX5_setRight_179 (by decide)) dX5_setRight_182 (by decide))))))))))))) (kSt_retV dX5_setRight_185))
noncomputable def F_Row_setRight : kFn := kF 3 kN s_Row_setRight
theorem c_Row_setRight : kCon yX5_setRight cX5_setRight 9 none { frames := 2, cells := 0, slots := 0, locals := 53 } F_Row_setRight := kCon_of kEnds_V (by decide +kernel) (by decide) ⟨0, 0, 0, b_Row_setRight⟩
noncomputable def s_Row_arcAdded : kSx :=
  (sSeq (sSeq (sAst 1 (eGet 5 0 (eR 0)) (eI 1) (eI 2))
  (sIf (cNot (cZ 1 (eI 2))) (sCall 5 F_Row_setRight (eSnoc (eSnoc (eSnoc eNil (eR 0)) (eAld 0 (eGet 10 0 (eGet 5 1 (eR 0))) (eI 1))) (eAld 0 (eGet 10 1 (eGet 5 1 (eR 0))) (eI 1)))) sSkip)) sRetV)
abbrev M_Row_arcAdded : kM := (cX5_arcAdded, yX5_arcAdded.cls, 3, { frames := 3, cells := 0, slots := 0, locals := 81 }, none)
set_option maxRecDepth 20000 in
theorem b_Row_arcAdded : kSt M_Row_arcAdded 0 0 0 0 s_Row_arcAdded :=
  (kSt_seq (kSt_seq (p1 := 7) (kSt_zast (kE_get (kE_aload_0 dX5_arcAdded_0) lf_RX5_9 dX5_arcAdded_1) (kE_iload_1 dX5_arcAdded_4) (kE_iload_2 dX5_arcAdded_5) dX5_arcAdded_6)
  (kSt_if (kCd_not (kCd_Z (kE_iload_2 dX5_arcAdded_7) (kZt_1 (tgt := 33) dX5_arcAdded_8 (by decide)))) (kSt_call (kEs_snoc (kEs_snoc (kEs_snoc kEs_nil (kE_aload_0 dX5_arcAdded_11)) (kE_iald (kE_get (kE_get (kE_aload_0 dX5_arcAdded_12) lf_RX5_37 dX5_arcAdded_13) lf_RX5_55 dX5_arcAdded_16) (kE_iload_1 dX5_arcAdded_19) dX5_arcAdded_20)) (kE_iald (kE_get (kE_get (kE_aload_0 dX5_arcAdded_21) lf_RX5_37 dX5_arcAdded_22) lf_RX5_58 dX5_arcAdded_25) (kE_iload_1 dX5_arcAdded_28) dX5_arcAdded_29)) dX5_arcAdded_30 c_Row_setRight mv_Row_setRight lm_RX5_69 ⟨rfl, rfl, by decide, by decide⟩) kSt_skip)) (kSt_retV dX5_arcAdded_33))
noncomputable def F_Row_arcAdded : kFn := kF 3 kN s_Row_arcAdded
theorem c_Row_arcAdded : kCon yX5_arcAdded cX5_arcAdded 3 none { frames := 3, cells := 0, slots := 0, locals := 81 } F_Row_arcAdded := kCon_of kEnds_V (by decide +kernel) (by decide) ⟨0, 0, 0, b_Row_arcAdded⟩
noncomputable def l_Row_arcRemoved_1 : kSx := sFor 3 (cC 2 (eI 2) (eGet 10 4 (eGet 5 1 (eR 0))))
  (sTrunc 3 (sSeq (sLet 0 3 (eAld 0 (eGet 10 2 (eGet 5 1 (eR 0))) (eI 2)))
  (sSeq (sLet 0 4 (eAld 0 (eGet 10 0 (eGet 5 1 (eR 0))) (eI 3)))
  (sSeq (sLet 0 5 (eAld 0 (eGet 10 1 (eGet 5 1 (eR 0))) (eI 3)))
  (sIf (cAnd (cAnd (cZ 1 (eAld 1 (eGet 5 0 (eR 0)) (eI 3))) (cC 1 (eI 4) (eI 5))) (cNot (cZ 1 (eCall 5 F_Row_reaches (eSnoc (eSnoc (eSnoc eNil (eR 0)) (eI 5)) (eI 4)))))) (sSeq (sAst 1 (eGet 5 0 (eR 0)) (eI 3) (eK (0)))
  (sCall 5 F_Row_setRight (eSnoc (eSnoc (eSnoc eNil (eR 0)) (eI 4)) (eI 5)))) sSkip)))))
  (sInc 2 (1))
noncomputable def s_Row_arcRemoved : kSx :=
  (sSeq (sSeq (sIf (cZ 1 (eAld 1 (eGet 5 0 (eR 0)) (eI 1))) sRetV sSkip)
  (sTrunc 2 (sSeq (sLet 0 2 (eK (0))) l_Row_arcRemoved_1))) sRetV)
abbrev M_Row_arcRemoved : kM := (cX5_arcRemoved, yX5_arcRemoved.cls, 6, { frames := 3, cells := 0, slots := 0, locals := 81 }, none)
set_option maxRecDepth 20000 in
theorem b_Row_arcRemoved : kSt M_Row_arcRemoved 0 0 0 0 s_Row_arcRemoved :=
  (kSt_seq (kSt_seq (p1 := 10) (kSt_if (kCd_Z (kE_zald (kE_get (kE_aload_0 dX5_arcRemoved_0) lf_RX5_9 dX5_arcRemoved_1) (kE_iload_1 dX5_arcRemoved_4) dX5_arcRemoved_5) (kZf_1 (tgt := 10) dX5_arcRemoved_6 (by decide))) (kSt_retV dX5_arcRemoved_9) kSt_skip)
  (kSt_trunc (kSt_seq (kSt_let (kE_ic_0 dX5_arcRemoved_10) (kSet_istore_2 dX5_arcRemoved_11 (by decide))) (kSt_for (pu := 97) (pt := 23) (kCd_C (kE_iload_2 dX5_arcRemoved_12) (kE_get (kE_get (kE_aload_0 dX5_arcRemoved_13) lf_RX5_37 dX5_arcRemoved_14) lf_RX5_45 dX5_arcRemoved_17) (kJf_2 (tgt := 103) dX5_arcRemoved_20 (by decide))) (kSt_trunc (kSt_seq (p1 := 33) (kSt_let (kE_iald (kE_get (kE_get (kE_aload_0 dX5_arcRemoved_23) lf_RX5_37 dX5_arcRemoved_24) lf_RX5_50 dX5_arcRemoved_27) (kE_iload_2 dX5_arcRemoved_30) dX5_arcRemoved_31) (kSet_istore_3 dX5_arcRemoved_32 (by decide)))
  (kSt_seq (p1 := 44) (kSt_let (kE_iald (kE_get (kE_get (kE_aload_0 dX5_arcRemoved_33) lf_RX5_37 dX5_arcRemoved_34) lf_RX5_55 dX5_arcRemoved_37) (kE_iload_3 dX5_arcRemoved_40) dX5_arcRemoved_41) (kSet_istore dX5_arcRemoved_42 (by decide)))
  (kSt_seq (p1 := 55) (kSt_let (kE_iald (kE_get (kE_get (kE_aload_0 dX5_arcRemoved_44) lf_RX5_37 dX5_arcRemoved_45) lf_RX5_58 dX5_arcRemoved_48) (kE_iload_3 dX5_arcRemoved_51) dX5_arcRemoved_52) (kSet_istore dX5_arcRemoved_53 (by decide)))
  (kSt_if (kCd_and (kCd_and (kCd_Z (kE_zald (kE_get (kE_aload_0 dX5_arcRemoved_55) lf_RX5_9 dX5_arcRemoved_56) (kE_iload_3 dX5_arcRemoved_59) dX5_arcRemoved_60) (kZf_1 (tgt := 97) dX5_arcRemoved_61 (by decide))) (kCd_C (kE_iload dX5_arcRemoved_64) (kE_iload dX5_arcRemoved_66) (kJf_1 (tgt := 97) dX5_arcRemoved_68 (by decide)))) (kCd_not (kCd_Z (kE_call (kEs_snoc (kEs_snoc (kEs_snoc kEs_nil (kE_aload_0 dX5_arcRemoved_71)) (kE_iload dX5_arcRemoved_72)) (kE_iload dX5_arcRemoved_74)) dX5_arcRemoved_76 c_Row_reaches mv_Row_reaches lm_RX5_61 ⟨rfl, rfl, by decide, by decide⟩ (by decide)) (kZt_1 (tgt := 97) dX5_arcRemoved_79 (by decide))))) (kSt_seq (p1 := 89) (kSt_zast (kE_get (kE_aload_0 dX5_arcRemoved_82) lf_RX5_9 dX5_arcRemoved_83) (kE_iload_3 dX5_arcRemoved_86) (kE_ic_0 dX5_arcRemoved_87) dX5_arcRemoved_88)
  (kSt_call (kEs_snoc (kEs_snoc (kEs_snoc kEs_nil (kE_aload_0 dX5_arcRemoved_89)) (kE_iload dX5_arcRemoved_90)) (kE_iload dX5_arcRemoved_92)) dX5_arcRemoved_94 c_Row_setRight mv_Row_setRight lm_RX5_69 ⟨rfl, rfl, by decide, by decide⟩)) kSt_skip))))) (kSt_goto (tgt := 12) (kSt_inc dX5_arcRemoved_97 (by decide)) dX5_arcRemoved_100 (by decide)))))) (kSt_retV dX5_arcRemoved_103))
noncomputable def F_Row_arcRemoved : kFn := kF 2 kN s_Row_arcRemoved
theorem c_Row_arcRemoved : kCon yX5_arcRemoved cX5_arcRemoved 6 none { frames := 3, cells := 0, slots := 0, locals := 81 } F_Row_arcRemoved := kCon_of kEnds_V (by decide +kernel) (by decide) ⟨0, 0, 0, b_Row_arcRemoved⟩
noncomputable def l_Strong_leave_1 : kSx := sFor 5 (cAnd (cC 2 (eI 4) (eK (1500))) (cZ 4 (eI 3)))
  (sTrunc 5 (sSeq (sLet 0 5 (eAld 0 (eGet 7 3 (eR 0)) (eBin kSub (eI 3) (eK (1)))))
  (sIf (cC 2 (eAld 0 (eGet 7 4 (eR 0)) (eI 5)) (eAld 0 (eGet 1 1 (eR 2)) (eBin kAdd (eI 5) (eK (1))))) (sTrunc 6 (sSeq (sLet 0 6 (eAld 0 (eGet 10 1 (eGet 7 0 (eR 0))) (eAld 0 (eGet 1 0 (eR 2)) (eAld 0 (eGet 7 4 (eR 0)) (eI 5)))))
  (sSeq (sAstOp (eGet 7 4 (eR 0)) (eI 5) kAdd (eK (1)))
  (sIf (cC 0 (eAld 0 (eGet 7 4 (eR 0)) (eI 6)) (eK (-1))) (sSeq (sAst 0 (eGet 7 4 (eR 0)) (eI 6) (eAld 0 (eGet 1 1 (eR 2)) (eI 6)))
  (sSeq (sAst 0 (eGet 7 3 (eR 0)) (eI 3) (eI 6))
  (sInc 3 (1)))) sSkip))))
  (sSeq (sAst 0 (eGet 7 2 (eR 0)) (eGet 7 5 (eR 0)) (eI 5))
  (sSeq (sPutOp 7 5 (eR 0) kAdd (eK (1)))
  (sInc 3 (-1)))))))
  (sInc 4 (1))
noncomputable def s_Strong_leave : kSx :=
  (sSeq (sSeq (sLet 1 2 (eGet 10 6 (eGet 7 0 (eR 0))))
  (sSeq (sAst 0 (eGet 7 4 (eR 0)) (eI 1) (eAld 0 (eGet 1 1 (eR 2)) (eI 1)))
  (sSeq (sAst 0 (eGet 7 3 (eR 0)) (eK (0)) (eI 1))
  (sSeq (sLet 0 3 (eK (1)))
  (sTrunc 4 (sSeq (sLet 0 4 (eK (0))) l_Strong_leave_1)))))) sRetV)
abbrev M_Strong_leave : kM := (cX7_leave, yX7_leave.cls, 7, { frames := 0, cells := 0, slots := 0, locals := 0 }, none)
set_option maxRecDepth 20000 in
theorem b_Strong_leave : kSt M_Strong_leave 0 0 0 0 s_Strong_leave :=
  (kSt_seq (kSt_seq (p1 := 8) (kSt_let (kE_get (kE_get (kE_aload_0 dX7_leave_0) lf_RX7_24 dX7_leave_1) lf_RX7_57 dX7_leave_4) (kSet_astore_2 dX7_leave_7 (by decide)))
  (kSt_seq (p1 := 20) (kSt_iast (kE_get (kE_aload_0 dX7_leave_8) lf_RX7_21 dX7_leave_9) (kE_iload_1 dX7_leave_12) (kE_iald (kE_get (kE_aload_2 dX7_leave_13) lf_RX7_61 dX7_leave_14) (kE_iload_1 dX7_leave_17) dX7_leave_18) dX7_leave_19)
  (kSt_seq (p1 := 27) (kSt_iast (kE_get (kE_aload_0 dX7_leave_20) lf_RX7_18 dX7_leave_21) (kE_ic_0 dX7_leave_24) (kE_iload_1 dX7_leave_25) dX7_leave_26)
  (kSt_seq (p1 := 29) (kSt_let (kE_ic_1 dX7_leave_27) (kSet_istore_3 dX7_leave_28 (by decide)))
  (kSt_trunc (kSt_seq (kSt_let (kE_ic_0 dX7_leave_29) (kSet_istore dX7_leave_30 (by decide))) (kSt_for (pu := 169) (pt := 44) (kCd_and (kCd_C (kE_iload dX7_leave_32) (kE_sipush dX7_leave_34 (by rfl) ⟨by decide, by decide⟩) (kJf_2 (tgt := 175) dX7_leave_37 (by decide))) (kCd_Z (kE_iload_3 dX7_leave_40) (kZf_4 (tgt := 175) dX7_leave_41 (by decide)))) (kSt_trunc (kSt_seq (p1 := 54) (kSt_let (kE_iald (kE_get (kE_aload_0 dX7_leave_44) lf_RX7_18 dX7_leave_45) (kE_bin (kE_iload_3 dX7_leave_48) (kE_ic_1 dX7_leave_49) (kOp_sub dX7_leave_50)) dX7_leave_51) (kSet_istore dX7_leave_52 (by decide)))
  (kSt_if (kCd_C (kE_iald (kE_get (kE_aload_0 dX7_leave_54) lf_RX7_21 dX7_leave_55) (kE_iload dX7_leave_58) dX7_leave_60) (kE_iald (kE_get (kE_aload_2 dX7_leave_61) lf_RX7_61 dX7_leave_62) (kE_bin (kE_iload dX7_leave_65) (kE_ic_1 dX7_leave_67) (kOp_add dX7_leave_68)) dX7_leave_69) (kJf_2 (tgt := 145) dX7_leave_70 (by decide))) (kSt_goto (tgt := 169) (kSt_trunc (kSt_seq (p1 := 95) (kSt_let (kE_iald (kE_get (kE_get (kE_aload_0 dX7_leave_73) lf_RX7_24 dX7_leave_74) lf_RX7_66 dX7_leave_77) (kE_iald (kE_get (kE_aload_2 dX7_leave_80) lf_RX7_69 dX7_leave_81) (kE_iald (kE_get (kE_aload_0 dX7_leave_84) lf_RX7_21 dX7_leave_85) (kE_iload dX7_leave_88) dX7_leave_90) dX7_leave_91) dX7_leave_92) (kSet_istore dX7_leave_93 (by decide)))
  (kSt_seq (p1 := 106) (kSt_iastOp (kE_get (kE_aload_0 dX7_leave_95) lf_RX7_21 dX7_leave_96) (kE_iload dX7_leave_99) dX7_leave_101 dX7_leave_102 (kE_ic_1 dX7_leave_103) (kOp_add dX7_leave_104) dX7_leave_105)
  (kSt_if (kCd_C (kE_iald (kE_get (kE_aload_0 dX7_leave_106) lf_RX7_21 dX7_leave_107) (kE_iload dX7_leave_110) dX7_leave_112) (kE_ic_m1 dX7_leave_113) (kJf_0 (tgt := 142) dX7_leave_114 (by decide))) (kSt_seq (p1 := 131) (kSt_iast (kE_get (kE_aload_0 dX7_leave_117) lf_RX7_21 dX7_leave_118) (kE_iload dX7_leave_121) (kE_iald (kE_get (kE_aload_2 dX7_leave_123) lf_RX7_61 dX7_leave_124) (kE_iload dX7_leave_127) dX7_leave_129) dX7_leave_130)
  (kSt_seq (p1 := 139) (kSt_iast (kE_get (kE_aload_0 dX7_leave_131) lf_RX7_18 dX7_leave_132) (kE_iload_3 dX7_leave_135) (kE_iload dX7_leave_136) dX7_leave_138)
  (kSt_inc dX7_leave_139 (by decide)))) kSt_skip)))) dX7_leave_142 (by decide))
  (kSt_seq (p1 := 156) (kSt_iast (kE_get (kE_aload_0 dX7_leave_145) lf_RX7_15 dX7_leave_146) (kE_get (kE_aload_0 dX7_leave_149) lf_RX7_47 dX7_leave_150) (kE_iload dX7_leave_153) dX7_leave_155)
  (kSt_seq (p1 := 166) (kSt_putOp (kE_aload_0 dX7_leave_156) dX7_leave_157 lf_RX7_47 dX7_leave_158 (kE_ic_1 dX7_leave_161) (kOp_add dX7_leave_162) lp_RX7_47 dX7_leave_163)
  (kSt_inc dX7_leave_166 (by decide))))))) (kSt_goto (tgt := 32) (kSt_inc dX7_leave_169 (by decide)) dX7_leave_172 (by decide))))))))) (kSt_retV dX7_leave_175))
noncomputable def F_Strong_leave : kFn := kF 2 kN s_Strong_leave
theorem c_Strong_leave : kCon yX7_leave cX7_leave 7 none { frames := 0, cells := 0, slots := 0, locals := 0 } F_Strong_leave := kCon_of kEnds_V (by decide +kernel) (by decide) ⟨0, 0, 0, b_Strong_leave⟩
noncomputable def l_Strong_collect_1 : kSx := sFor 8 (cC 2 (eI 7) (eAld 0 (eGet 1 1 (eR 2)) (eBin kAdd (eI 6) (eK (1)))))
  (sTrunc 8 (sSeq (sLet 0 8 (eAld 0 (eGet 10 0 (eGet 7 0 (eR 0))) (eAld 0 (eGet 1 0 (eR 2)) (eI 7))))
  (sIf (cC 0 (eAld 0 (eGet 7 1 (eR 0)) (eI 8)) (eK (-1))) (sSeq (sAst 0 (eGet 7 1 (eR 0)) (eI 8) (eI 1))
  (sSeq (sAst 0 (eGet 7 3 (eR 0)) (eI 4) (eI 8))
  (sInc 4 (1)))) sSkip)))
  (sInc 7 (1))
noncomputable def l_Strong_collect_2 : kSx := sFor 6 (cAnd (cC 2 (eI 5) (eK (300))) (cC 2 (eI 5) (eI 4)))
  (sTrunc 6 (sSeq (sLet 0 6 (eAld 0 (eGet 7 3 (eR 0)) (eI 5)))
  (sSeq (sLet 0 3 (eMin (eI 3) (eI 6)))
  (sTrunc 7 (sSeq (sLet 0 7 (eAld 0 (eGet 1 1 (eR 2)) (eI 6))) l_Strong_collect_1)))))
  (sInc 5 (1))
noncomputable def l_Strong_collect_3 : kSx := sFor 6 (cC 2 (eI 5) (eI 4))
  (sAst 0 (eGet 7 1 (eR 0)) (eAld 0 (eGet 7 3 (eR 0)) (eI 5)) (eI 3))
  (sInc 5 (1))
noncomputable def s_Strong_collect : kSx :=
  (sSeq (sSeq (sLet 1 2 (eGet 10 7 (eGet 7 0 (eR 0))))
  (sSeq (sAst 0 (eGet 7 1 (eR 0)) (eI 1) (eI 1))
  (sSeq (sAst 0 (eGet 7 3 (eR 0)) (eK (0)) (eI 1))
  (sSeq (sLet 0 3 (eI 1))
  (sSeq (sLet 0 4 (eK (1)))
  (sSeq (sTrunc 5 (sSeq (sLet 0 5 (eK (0))) l_Strong_collect_2))
  (sTrunc 5 (sSeq (sLet 0 5 (eK (0))) l_Strong_collect_3)))))))) sRetV)
abbrev M_Strong_collect : kM := (cX7_collect, yX7_collect.cls, 9, { frames := 1, cells := 0, slots := 0, locals := 21 }, none)
set_option maxRecDepth 20000 in
theorem b_Strong_collect : kSt M_Strong_collect 0 0 0 0 s_Strong_collect :=
  (kSt_seq (kSt_seq (p1 := 8) (kSt_let (kE_get (kE_get (kE_aload_0 dX7_collect_0) lf_RX7_24 dX7_collect_1) lf_RX7_72 dX7_collect_4) (kSet_astore_2 dX7_collect_7 (by decide)))
  (kSt_seq (p1 := 15) (kSt_iast (kE_get (kE_aload_0 dX7_collect_8) lf_RX7_9 dX7_collect_9) (kE_iload_1 dX7_collect_12) (kE_iload_1 dX7_collect_13) dX7_collect_14)
  (kSt_seq (p1 := 22) (kSt_iast (kE_get (kE_aload_0 dX7_collect_15) lf_RX7_18 dX7_collect_16) (kE_ic_0 dX7_collect_19) (kE_iload_1 dX7_collect_20) dX7_collect_21)
  (kSt_seq (p1 := 24) (kSt_let (kE_iload_1 dX7_collect_22) (kSet_istore_3 dX7_collect_23 (by decide)))
  (kSt_seq (p1 := 27) (kSt_let (kE_ic_1 dX7_collect_24) (kSet_istore dX7_collect_25 (by decide)))
  (kSt_seq (p1 := 144) (kSt_trunc (kSt_seq (kSt_let (kE_ic_0 dX7_collect_27) (kSet_istore dX7_collect_28 (by decide))) (kSt_for (pu := 138) (pt := 45) (kCd_and (kCd_C (kE_iload dX7_collect_30) (kE_sipush dX7_collect_32 (by rfl) ⟨by decide, by decide⟩) (kJf_2 (tgt := 144) dX7_collect_35 (by decide))) (kCd_C (kE_iload dX7_collect_38) (kE_iload dX7_collect_40) (kJf_2 (tgt := 144) dX7_collect_42 (by decide)))) (kSt_trunc (kSt_seq (p1 := 54) (kSt_let (kE_iald (kE_get (kE_aload_0 dX7_collect_45) lf_RX7_18 dX7_collect_46) (kE_iload dX7_collect_49) dX7_collect_51) (kSet_istore dX7_collect_52 (by decide)))
  (kSt_seq (p1 := 61) (kSt_let (kE_min (kE_iload_3 dX7_collect_54) (kE_iload dX7_collect_55) dX7_collect_57 lM_RX7_75 mw_min ⟨by decide, by decide⟩ (by decide)) (kSet_istore_3 dX7_collect_60 (by decide)))
  (kSt_trunc (kSt_seq (kSt_let (kE_iald (kE_get (kE_aload_2 dX7_collect_61) lf_RX7_61 dX7_collect_62) (kE_iload dX7_collect_65) dX7_collect_67) (kSet_istore dX7_collect_68 (by decide))) (kSt_for (pu := 132) (pt := 84) (kCd_C (kE_iload dX7_collect_70) (kE_iald (kE_get (kE_aload_2 dX7_collect_72) lf_RX7_61 dX7_collect_73) (kE_bin (kE_iload dX7_collect_76) (kE_ic_1 dX7_collect_78) (kOp_add dX7_collect_79)) dX7_collect_80) (kJf_2 (tgt := 138) dX7_collect_81 (by decide))) (kSt_trunc (kSt_seq (p1 := 101) (kSt_let (kE_iald (kE_get (kE_get (kE_aload_0 dX7_collect_84) lf_RX7_24 dX7_collect_85) lf_RX7_81 dX7_collect_88) (kE_iald (kE_get (kE_aload_2 dX7_collect_91) lf_RX7_69 dX7_collect_92) (kE_iload dX7_collect_95) dX7_collect_97) dX7_collect_98) (kSet_istore dX7_collect_99 (by decide)))
  (kSt_if (kCd_C (kE_iald (kE_get (kE_aload_0 dX7_collect_101) lf_RX7_9 dX7_collect_102) (kE_iload dX7_collect_105) dX7_collect_107) (kE_ic_m1 dX7_collect_108) (kJf_0 (tgt := 132) dX7_collect_109 (by decide))) (kSt_seq (p1 := 120) (kSt_iast (kE_get (kE_aload_0 dX7_collect_112) lf_RX7_9 dX7_collect_113) (kE_iload dX7_collect_116) (kE_iload_1 dX7_collect_118) dX7_collect_119)
  (kSt_seq (p1 := 129) (kSt_iast (kE_get (kE_aload_0 dX7_collect_120) lf_RX7_18 dX7_collect_121) (kE_iload dX7_collect_124) (kE_iload dX7_collect_126) dX7_collect_128)
  (kSt_inc dX7_collect_129 (by decide)))) kSt_skip))) (kSt_goto (tgt := 70) (kSt_inc dX7_collect_132 (by decide)) dX7_collect_135 (by decide)))))))) (kSt_goto (tgt := 30) (kSt_inc dX7_collect_138 (by decide)) dX7_collect_141 (by decide)))))
  (kSt_trunc (kSt_seq (kSt_let (kE_ic_0 dX7_collect_144) (kSet_istore dX7_collect_145 (by decide))) (kSt_for (pu := 167) (pt := 154) (kCd_C (kE_iload dX7_collect_147) (kE_iload dX7_collect_149) (kJf_2 (tgt := 173) dX7_collect_151 (by decide))) (kSt_iast (kE_get (kE_aload_0 dX7_collect_154) lf_RX7_9 dX7_collect_155) (kE_iald (kE_get (kE_aload_0 dX7_collect_158) lf_RX7_18 dX7_collect_159) (kE_iload dX7_collect_162) dX7_collect_164) (kE_iload_3 dX7_collect_165) dX7_collect_166) (kSt_goto (tgt := 147) (kSt_inc dX7_collect_167 (by decide)) dX7_collect_170 (by decide))))))))))) (kSt_retV dX7_collect_173))
noncomputable def F_Strong_collect : kFn := kF 2 kN s_Strong_collect
theorem c_Strong_collect : kCon yX7_collect cX7_collect 9 none { frames := 1, cells := 0, slots := 0, locals := 21 } F_Strong_collect := kCon_of kEnds_V (by decide +kernel) (by decide) ⟨0, 0, 0, b_Strong_collect⟩
noncomputable def l_Strong_look_1 : kSx := sFor 2 (cC 2 (eI 1) (eGet 10 3 (eGet 7 0 (eR 0))))
  (sIf (cC 0 (eAld 0 (eGet 7 4 (eR 0)) (eI 1)) (eK (-1))) (sCall 7 F_Strong_leave (eSnoc (eSnoc eNil (eR 0)) (eI 1))) sSkip)
  (sInc 1 (1))
noncomputable def l_Strong_look_2 : kSx := sFor 2 (cZ 3 (eI 1))
  (sIf (cC 0 (eAld 0 (eGet 7 1 (eR 0)) (eAld 0 (eGet 7 2 (eR 0)) (eI 1))) (eK (-1))) (sCall 7 F_Strong_collect (eSnoc (eSnoc eNil (eR 0)) (eAld 0 (eGet 7 2 (eR 0)) (eI 1)))) sSkip)
  (sInc 1 (-1))
noncomputable def s_Strong_look : kSx :=
  (sSeq (sSeq (sIf (cC 0 (eGet 7 6 (eR 0)) (eGet 10 5 (eGet 7 0 (eR 0)))) sRetV sSkip)
  (sSeq (sCallS F_Ar_fill (eSnoc (eSnoc eNil (eGet 7 4 (eR 0))) (eK (-1))))
  (sSeq (sPut 7 5 (eR 0) (eK (0)))
  (sSeq (sTrunc 1 (sSeq (sLet 0 1 (eK (0))) l_Strong_look_1))
  (sSeq (sCallS F_Ar_fill (eSnoc (eSnoc eNil (eGet 7 1 (eR 0))) (eK (-1))))
  (sSeq (sTrunc 1 (sSeq (sLet 0 1 (eBin kSub (eGet 7 5 (eR 0)) (eK (1)))) l_Strong_look_2))
  (sPut 7 6 (eR 0) (eGet 10 5 (eGet 7 0 (eR 0)))))))))) sRetV)
abbrev M_Strong_look : kM := (cX7_look, yX7_look.cls, 2, { frames := 2, cells := 0, slots := 0, locals := 49 }, none)
set_option maxRecDepth 20000 in
theorem b_Strong_look : kSt M_Strong_look 0 0 0 0 s_Strong_look :=
  (kSt_seq (kSt_seq (p1 := 15) (kSt_if (kCd_C (kE_get (kE_aload_0 dX7_look_0) lf_RX7_37 dX7_look_1) (kE_get (kE_get (kE_aload_0 dX7_look_4) lf_RX7_24 dX7_look_5) lf_RX7_40 dX7_look_8) (kJf_0 (tgt := 15) dX7_look_11 (by decide))) (kSt_retV dX7_look_14) kSt_skip)
  (kSt_seq (p1 := 23) (kSt_callS (kEs_snoc (kEs_snoc kEs_nil (kE_get (kE_aload_0 dX7_look_15) lf_RX7_21 dX7_look_16)) (kE_ic_m1 dX7_look_19)) dX7_look_20 c_Ar_fill mv_Ar_fill lm_RX7_41 ⟨rfl, rfl, by decide, by decide⟩)
  (kSt_seq (p1 := 28) (kSt_put (kE_aload_0 dX7_look_23) (kE_ic_0 dX7_look_24) lp_RX7_47 dX7_look_25)
  (kSt_seq (p1 := 62) (kSt_trunc (kSt_seq (kSt_let (kE_ic_0 dX7_look_28) (kSet_istore_1 dX7_look_29 (by decide))) (kSt_for (pu := 56) (pt := 41) (kCd_C (kE_iload_1 dX7_look_30) (kE_get (kE_get (kE_aload_0 dX7_look_31) lf_RX7_24 dX7_look_32) lf_RX7_31 dX7_look_35) (kJf_2 (tgt := 62) dX7_look_38 (by decide))) (kSt_if (kCd_C (kE_iald (kE_get (kE_aload_0 dX7_look_41) lf_RX7_21 dX7_look_42) (kE_iload_1 dX7_look_45) dX7_look_46) (kE_ic_m1 dX7_look_47) (kJf_0 (tgt := 56) dX7_look_48 (by decide))) (kSt_call (kEs_snoc (kEs_snoc kEs_nil (kE_aload_0 dX7_look_51)) (kE_iload_1 dX7_look_52)) dX7_look_53 c_Strong_leave mv_Strong_leave lm_RX7_50 ⟨rfl, rfl, by decide, by decide⟩) kSt_skip) (kSt_goto (tgt := 30) (kSt_inc dX7_look_56 (by decide)) dX7_look_59 (by decide)))))
  (kSt_seq (p1 := 70) (kSt_callS (kEs_snoc (kEs_snoc kEs_nil (kE_get (kE_aload_0 dX7_look_62) lf_RX7_9 dX7_look_63)) (kE_ic_m1 dX7_look_66)) dX7_look_67 c_Ar_fill mv_Ar_fill lm_RX7_41 ⟨rfl, rfl, by decide, by decide⟩)
  (kSt_seq (p1 := 112) (kSt_trunc (kSt_seq (kSt_let (kE_bin (kE_get (kE_aload_0 dX7_look_70) lf_RX7_47 dX7_look_71) (kE_ic_1 dX7_look_74) (kOp_sub dX7_look_75)) (kSet_istore_1 dX7_look_76 (by decide))) (kSt_for (pu := 106) (pt := 81) (kCd_Z (kE_iload_1 dX7_look_77) (kZf_3 (tgt := 112) dX7_look_78 (by decide))) (kSt_if (kCd_C (kE_iald (kE_get (kE_aload_0 dX7_look_81) lf_RX7_9 dX7_look_82) (kE_iald (kE_get (kE_aload_0 dX7_look_85) lf_RX7_15 dX7_look_86) (kE_iload_1 dX7_look_89) dX7_look_90) dX7_look_91) (kE_ic_m1 dX7_look_92) (kJf_0 (tgt := 106) dX7_look_93 (by decide))) (kSt_call (kEs_snoc (kEs_snoc kEs_nil (kE_aload_0 dX7_look_96)) (kE_iald (kE_get (kE_aload_0 dX7_look_97) lf_RX7_15 dX7_look_98) (kE_iload_1 dX7_look_101) dX7_look_102)) dX7_look_103 c_Strong_collect mv_Strong_collect lm_RX7_54 ⟨rfl, rfl, by decide, by decide⟩) kSt_skip) (kSt_goto (tgt := 77) (kSt_inc dX7_look_106 (by decide)) dX7_look_109 (by decide)))))
  (kSt_put (kE_aload_0 dX7_look_112) (kE_get (kE_get (kE_aload_0 dX7_look_113) lf_RX7_24 dX7_look_114) lf_RX7_40 dX7_look_117) lp_RX7_37 dX7_look_120))))))) (kSt_retV dX7_look_123))
noncomputable def F_Strong_look : kFn := kF 1 kN s_Strong_look
theorem c_Strong_look : kCon yX7_look cX7_look 2 none { frames := 2, cells := 0, slots := 0, locals := 49 } F_Strong_look := kCon_of kEnds_V (by decide +kernel) (by decide) ⟨0, 0, 0, b_Strong_look⟩
noncomputable def s_Strong_leastOf : kSx :=
  (sSeq (sCall 7 F_Strong_look (eSnoc eNil (eR 0)))
  (sRet 0 (eAld 0 (eGet 7 1 (eR 0)) (eI 1))))
abbrev M_Strong_leastOf : kM := (cX7_leastOf, yX7_leastOf.cls, 2, { frames := 3, cells := 0, slots := 0, locals := 70 }, (some .int))
set_option maxRecDepth 20000 in
theorem b_Strong_leastOf : kSt M_Strong_leastOf 0 0 0 0 s_Strong_leastOf :=
  (kSt_seq (p1 := 4) (kSt_call (kEs_snoc kEs_nil (kE_aload_0 dX7_leastOf_0)) dX7_leastOf_1 c_Strong_look mv_Strong_look lm_RX7_28 ⟨rfl, rfl, by decide, by decide⟩)
  (kSt_ret (tag := 0) (kE_iald (kE_get (kE_aload_0 dX7_leastOf_4) lf_RX7_9 dX7_leastOf_5) (kE_iload_1 dX7_leastOf_8) dX7_leastOf_9) ⟨fun _ => dX7_leastOf_10, fun q => (by cases q), fun q => (by cases q)⟩))
noncomputable def F_Strong_leastOf : kFn := kF 2 kI s_Strong_leastOf
theorem c_Strong_leastOf : kCon yX7_leastOf cX7_leastOf 2 (some .int) { frames := 3, cells := 0, slots := 0, locals := 70 } F_Strong_leastOf := kCon_of kEnds_I (by decide +kernel) (by decide) ⟨0, 0, 0, b_Strong_leastOf⟩
noncomputable def l_Strong_parts_1 : kSx := sFor 3 (cC 2 (eI 2) (eGet 10 3 (eGet 7 0 (eR 0))))
  (sIf (cC 0 (eAld 0 (eGet 7 1 (eR 0)) (eI 2)) (eI 2)) (sInc 1 (1)) sSkip)
  (sInc 2 (1))
noncomputable def s_Strong_parts : kSx :=
  (sSeq (sCall 7 F_Strong_look (eSnoc eNil (eR 0)))
  (sSeq (sLet 0 1 (eK (0)))
  (sSeq (sTrunc 2 (sSeq (sLet 0 2 (eK (0))) l_Strong_parts_1))
  (sRet 0 (eI 1)))))
abbrev M_Strong_parts : kM := (cX7_parts, yX7_parts.cls, 3, { frames := 3, cells := 0, slots := 0, locals := 70 }, (some .int))
set_option maxRecDepth 20000 in
theorem b_Strong_parts : kSt M_Strong_parts 0 0 0 0 s_Strong_parts :=
  (kSt_seq (p1 := 4) (kSt_call (kEs_snoc kEs_nil (kE_aload_0 dX7_parts_0)) dX7_parts_1 c_Strong_look mv_Strong_look lm_RX7_28 ⟨rfl, rfl, by decide, by decide⟩)
  (kSt_seq (p1 := 6) (kSt_let (kE_ic_0 dX7_parts_4) (kSet_istore_1 dX7_parts_5 (by decide)))
  (kSt_seq (p1 := 38) (kSt_trunc (kSt_seq (kSt_let (kE_ic_0 dX7_parts_6) (kSet_istore_2 dX7_parts_7 (by decide))) (kSt_for (pu := 32) (pt := 19) (kCd_C (kE_iload_2 dX7_parts_8) (kE_get (kE_get (kE_aload_0 dX7_parts_9) lf_RX7_24 dX7_parts_10) lf_RX7_31 dX7_parts_13) (kJf_2 (tgt := 38) dX7_parts_16 (by decide))) (kSt_if (kCd_C (kE_iald (kE_get (kE_aload_0 dX7_parts_19) lf_RX7_9 dX7_parts_20) (kE_iload_2 dX7_parts_23) dX7_parts_24) (kE_iload_2 dX7_parts_25) (kJf_0 (tgt := 32) dX7_parts_26 (by decide))) (kSt_inc dX7_parts_29 (by decide)) kSt_skip) (kSt_goto (tgt := 8) (kSt_inc dX7_parts_32 (by decide)) dX7_parts_35 (by decide)))))
  (kSt_ret (tag := 0) (kE_iload_1 dX7_parts_38) ⟨fun _ => dX7_parts_39, fun q => (by cases q), fun q => (by cases q)⟩))))
noncomputable def F_Strong_parts : kFn := kF 1 kI s_Strong_parts
theorem c_Strong_parts : kCon yX7_parts cX7_parts 3 (some .int) { frames := 3, cells := 0, slots := 0, locals := 70 } F_Strong_parts := kCon_of kEnds_I (by decide +kernel) (by decide) ⟨0, 0, 0, b_Strong_parts⟩
noncomputable def l_Sides_findNear_1 : kSx := sFor 5 (cC 2 (eI 4) (eI 3))
  (sTrunc 5 (sSeq (sLet 0 5 (eCall 10 F_Web_other (eSnoc (eSnoc (eSnoc eNil (eGet 6 0 (eR 0))) (eCall 10 F_Web_arcAt (eSnoc (eSnoc (eSnoc eNil (eGet 6 0 (eR 0))) (eI 2)) (eI 4)))) (eI 2))))
  (sIf (cC 1 (eAld 0 (eGet 6 4 (eR 0)) (eI 5)) (eI 2)) (sSeq (sAst 0 (eGet 6 4 (eR 0)) (eI 5) (eI 2))
  (sSeq (sAst 0 (eGet 6 2 (eR 0)) (eI 1) (eI 5))
  (sInc 1 (1)))) sSkip)))
  (sInc 4 (1))
noncomputable def l_Sides_findNear_2 : kSx := sFor 3 (cC 2 (eI 2) (eGet 10 3 (eGet 6 0 (eR 0))))
  (sTrunc 3 (sSeq (sAst 0 (eGet 6 1 (eR 0)) (eI 2) (eI 1))
  (sSeq (sAst 0 (eGet 6 4 (eR 0)) (eI 2) (eI 2))
  (sSeq (sLet 0 3 (eCall 10 F_Web_degree (eSnoc (eSnoc eNil (eGet 6 0 (eR 0))) (eI 2))))
  (sTrunc 4 (sSeq (sLet 0 4 (eK (0))) l_Sides_findNear_1))))))
  (sInc 2 (1))
noncomputable def s_Sides_findNear : kSx :=
  (sSeq (sSeq (sCallS F_Ar_fill (eSnoc (eSnoc eNil (eGet 6 4 (eR 0))) (eK (-1))))
  (sSeq (sLet 0 1 (eK (0)))
  (sSeq (sTrunc 2 (sSeq (sLet 0 2 (eK (0))) l_Sides_findNear_2))
  (sAst 0 (eGet 6 1 (eR 0)) (eGet 10 3 (eGet 6 0 (eR 0))) (eI 1))))) sRetV)
abbrev M_Sides_findNear : kM := (cX6_findNear, yX6_findNear.cls, 6, { frames := 1, cells := 0, slots := 0, locals := 23 }, none)
set_option maxRecDepth 20000 in
theorem b_Sides_findNear : kSt M_Sides_findNear 0 0 0 0 s_Sides_findNear :=
  (kSt_seq (kSt_seq (p1 := 8) (kSt_callS (kEs_snoc (kEs_snoc kEs_nil (kE_get (kE_aload_0 dX6_findNear_0) lf_RX6_21 dX6_findNear_1)) (kE_ic_m1 dX6_findNear_4)) dX6_findNear_5 c_Ar_fill mv_Ar_fill lm_RX6_70 ⟨rfl, rfl, by decide, by decide⟩)
  (kSt_seq (p1 := 10) (kSt_let (kE_ic_0 dX6_findNear_8) (kSet_istore_1 dX6_findNear_9 (by decide)))
  (kSt_seq (p1 := 117) (kSt_trunc (kSt_seq (kSt_let (kE_ic_0 dX6_findNear_10) (kSet_istore_2 dX6_findNear_11 (by decide))) (kSt_for (pu := 111) (pt := 23) (kCd_C (kE_iload_2 dX6_findNear_12) (kE_get (kE_get (kE_aload_0 dX6_findNear_13) lf_RX6_30 dX6_findNear_14) lf_RX6_37 dX6_findNear_17) (kJf_2 (tgt := 117) dX6_findNear_20 (by decide))) (kSt_trunc (kSt_seq (p1 := 30) (kSt_iast (kE_get (kE_aload_0 dX6_findNear_23) lf_RX6_9 dX6_findNear_24) (kE_iload_2 dX6_findNear_27) (kE_iload_1 dX6_findNear_28) dX6_findNear_29)
  (kSt_seq (p1 := 37) (kSt_iast (kE_get (kE_aload_0 dX6_findNear_30) lf_RX6_21 dX6_findNear_31) (kE_iload_2 dX6_findNear_34) (kE_iload_2 dX6_findNear_35) dX6_findNear_36)
  (kSt_seq (p1 := 46) (kSt_let (kE_call (kEs_snoc (kEs_snoc kEs_nil (kE_get (kE_aload_0 dX6_findNear_37) lf_RX6_30 dX6_findNear_38)) (kE_iload_2 dX6_findNear_41)) dX6_findNear_42 c_Web_degree mv_Web_degree lm_RX6_76 ⟨rfl, rfl, by decide, by decide⟩ (by decide)) (kSet_istore_3 dX6_findNear_45 (by decide)))
  (kSt_trunc (kSt_seq (kSt_let (kE_ic_0 dX6_findNear_46) (kSet_istore dX6_findNear_47 (by decide))) (kSt_for (pu := 105) (pt := 55) (kCd_C (kE_iload dX6_findNear_49) (kE_iload_3 dX6_findNear_51) (kJf_2 (tgt := 111) dX6_findNear_52 (by decide))) (kSt_trunc (kSt_seq (p1 := 75) (kSt_let (kE_call (kEs_snoc (kEs_snoc (kEs_snoc kEs_nil (kE_get (kE_aload_0 dX6_findNear_55) lf_RX6_30 dX6_findNear_56)) (kE_call (kEs_snoc (kEs_snoc (kEs_snoc kEs_nil (kE_get (kE_aload_0 dX6_findNear_59) lf_RX6_30 dX6_findNear_60)) (kE_iload_2 dX6_findNear_63)) (kE_iload dX6_findNear_64)) dX6_findNear_66 c_Web_arcAt mv_Web_arcAt lm_RX6_80 ⟨rfl, rfl, by decide, by decide⟩ (by decide))) (kE_iload_2 dX6_findNear_69)) dX6_findNear_70 c_Web_other mv_Web_other lm_RX6_83 ⟨rfl, rfl, by decide, by decide⟩ (by decide)) (kSet_istore dX6_findNear_73 (by decide)))
  (kSt_if (kCd_C (kE_iald (kE_get (kE_aload_0 dX6_findNear_75) lf_RX6_21 dX6_findNear_76) (kE_iload dX6_findNear_79) dX6_findNear_81) (kE_iload_2 dX6_findNear_82) (kJf_1 (tgt := 105) dX6_findNear_83 (by decide))) (kSt_seq (p1 := 94) (kSt_iast (kE_get (kE_aload_0 dX6_findNear_86) lf_RX6_21 dX6_findNear_87) (kE_iload dX6_findNear_90) (kE_iload_2 dX6_findNear_92) dX6_findNear_93)
  (kSt_seq (p1 := 102) (kSt_iast (kE_get (kE_aload_0 dX6_findNear_94) lf_RX6_15 dX6_findNear_95) (kE_iload_1 dX6_findNear_98) (kE_iload dX6_findNear_99) dX6_findNear_101)
  (kSt_inc dX6_findNear_102 (by decide)))) kSt_skip))) (kSt_goto (tgt := 49) (kSt_inc dX6_findNear_105 (by decide)) dX6_findNear_108 (by decide))))))))) (kSt_goto (tgt := 12) (kSt_inc dX6_findNear_111 (by decide)) dX6_findNear_114 (by decide)))))
  (kSt_iast (kE_get (kE_aload_0 dX6_findNear_117) lf_RX6_9 dX6_findNear_118) (kE_get (kE_get (kE_aload_0 dX6_findNear_121) lf_RX6_30 dX6_findNear_122) lf_RX6_37 dX6_findNear_125) (kE_iload_1 dX6_findNear_128) dX6_findNear_129)))) (kSt_retV dX6_findNear_130))
noncomputable def F_Sides_findNear : kFn := kF 1 kN s_Sides_findNear
theorem c_Sides_findNear : kCon yX6_findNear cX6_findNear 6 none { frames := 1, cells := 0, slots := 0, locals := 23 } F_Sides_findNear := kCon_of kEnds_V (by decide +kernel) (by decide) ⟨0, 0, 0, b_Sides_findNear⟩
