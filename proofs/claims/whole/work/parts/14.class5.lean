noncomputable def sw_KP_told (z : Int) : kSx := if z = 0 then (sRet 0 (eGet 10 3 (eGet 11 1 (eR 0)))) else
  if z = 1 then (sRet 0 (eGet 10 4 (eGet 11 1 (eR 0)))) else
  if z = 2 then (sRet 0 (eCall 8 F_Trees_parts (eSnoc eNil (eGet 11 2 (eR 0))))) else
  if z = 3 then (sRet 0 (eCall 3 F_OddArcs_evenParts (eSnoc eNil (eGet 11 3 (eR 0))))) else
  if z = 4 then (sRet 0 (eCall 9 F_Twice_bridges (eSnoc eNil (eGet 11 4 (eR 0))))) else
  if z = 5 then (sRet 0 (eCall 7 F_Strong_parts (eSnoc eNil (eGet 11 6 (eR 0))))) else
  if z = 6 then (sRet 0 (eCall 5 F_Row_looseArcs (eSnoc eNil (eGet 11 5 (eR 0))))) else
  if z = 7 then (sRet 0 (eCall 0 F_Chosen_size (eSnoc eNil (eGet 11 8 (eR 0))))) else
  if z = 8 then (sRet 0 (eCall 6 F_Sides_greatestCore (eSnoc eNil (eGet 11 7 (eR 0))))) else
  if z = 9 then (sRet 0 (eCall 8 F_Trees_greatestLevel (eSnoc eNil (eGet 11 2 (eR 0))))) else
  if z = 10 then (sRet 0 (eCall 8 F_Trees_treeArcs (eSnoc eNil (eGet 11 2 (eR 0))))) else
  if z = 11 then (sRet 0 (eGet 4 0 (eGet 11 9 (eR 0)))) else
  if z = 12 then (sRet 0 (eGet 11 12 (eR 0))) else
  (sThrow 169)
noncomputable def s_KP_told : kSx :=
  (sSwitch (eI 1) sw_KP_told)
abbrev M_KP_told : kM := (cX11_told, yX11_told.cls, 2, { frames := 6, cells := 0, slots := 0, locals := 138 }, (some .int))
set_option maxRecDepth 20000 in
theorem b_KP_told : kSt M_KP_told 0 0 0 0 s_KP_told :=
  (kSt_tsw (f := sw_KP_told) (kE_iload_1 dX11_told_0) dX11_told_1 (fun z => by
    unfold sw_KP_told
    by_cases h0 : z = 0
    · subst h0; exact ⟨68, Or.inr ⟨by decide, by decide, 67, rfl, by decide⟩, by
      first | (simp only [reduceIte, Int.reduceEq]; exact (kSt_ret (tag := 0) (kE_get (kE_get (kE_aload_0 dX11_told_68) lf_RX11_16 dX11_told_69) lf_RX11_96 dX11_told_72) ⟨fun _ => dX11_told_75, fun q => (by cases q), fun q => (by cases q)⟩)) | (simp; exact (kSt_ret (tag := 0) (kE_get (kE_get (kE_aload_0 dX11_told_68) lf_RX11_16 dX11_told_69) lf_RX11_96 dX11_told_72) ⟨fun _ => dX11_told_75, fun q => (by cases q), fun q => (by cases q)⟩))⟩
    by_cases h1 : z = 1
    · subst h1; exact ⟨76, Or.inr ⟨by decide, by decide, 75, rfl, by decide⟩, by
      first | (simp only [reduceIte, Int.reduceEq]; exact (kSt_ret (tag := 0) (kE_get (kE_get (kE_aload_0 dX11_told_76) lf_RX11_16 dX11_told_77) lf_RX11_286 dX11_told_80) ⟨fun _ => dX11_told_83, fun q => (by cases q), fun q => (by cases q)⟩)) | (simp; exact (kSt_ret (tag := 0) (kE_get (kE_get (kE_aload_0 dX11_told_76) lf_RX11_16 dX11_told_77) lf_RX11_286 dX11_told_80) ⟨fun _ => dX11_told_83, fun q => (by cases q), fun q => (by cases q)⟩))⟩
    by_cases h2 : z = 2
    · subst h2; exact ⟨84, Or.inr ⟨by decide, by decide, 83, rfl, by decide⟩, by
      first | (simp only [reduceIte, Int.reduceEq]; exact (kSt_ret (tag := 0) (kE_call (kEs_snoc kEs_nil (kE_get (kE_aload_0 dX11_told_84) lf_RX11_25 dX11_told_85)) dX11_told_88 c_Trees_parts mv_Trees_parts lm_RX11_167 ⟨rfl, rfl, by decide, by decide⟩ (by decide)) ⟨fun _ => dX11_told_91, fun q => (by cases q), fun q => (by cases q)⟩)) | (simp; exact (kSt_ret (tag := 0) (kE_call (kEs_snoc kEs_nil (kE_get (kE_aload_0 dX11_told_84) lf_RX11_25 dX11_told_85)) dX11_told_88 c_Trees_parts mv_Trees_parts lm_RX11_167 ⟨rfl, rfl, by decide, by decide⟩ (by decide)) ⟨fun _ => dX11_told_91, fun q => (by cases q), fun q => (by cases q)⟩))⟩
    by_cases h3 : z = 3
    · subst h3; exact ⟨92, Or.inr ⟨by decide, by decide, 91, rfl, by decide⟩, by
      first | (simp only [reduceIte, Int.reduceEq]; exact (kSt_ret (tag := 0) (kE_call (kEs_snoc kEs_nil (kE_get (kE_aload_0 dX11_told_92) lf_RX11_34 dX11_told_93)) dX11_told_96 c_OddArcs_evenParts mv_OddArcs_evenParts lm_RX11_289 ⟨rfl, rfl, by decide, by decide⟩ (by decide)) ⟨fun _ => dX11_told_99, fun q => (by cases q), fun q => (by cases q)⟩)) | (simp; exact (kSt_ret (tag := 0) (kE_call (kEs_snoc kEs_nil (kE_get (kE_aload_0 dX11_told_92) lf_RX11_34 dX11_told_93)) dX11_told_96 c_OddArcs_evenParts mv_OddArcs_evenParts lm_RX11_289 ⟨rfl, rfl, by decide, by decide⟩ (by decide)) ⟨fun _ => dX11_told_99, fun q => (by cases q), fun q => (by cases q)⟩))⟩
    by_cases h4 : z = 4
    · subst h4; exact ⟨100, Or.inr ⟨by decide, by decide, 99, rfl, by decide⟩, by
      first | (simp only [reduceIte, Int.reduceEq]; exact (kSt_ret (tag := 0) (kE_call (kEs_snoc kEs_nil (kE_get (kE_aload_0 dX11_told_100) lf_RX11_41 dX11_told_101)) dX11_told_104 c_Twice_bridges mv_Twice_bridges lm_RX11_291 ⟨rfl, rfl, by decide, by decide⟩ (by decide)) ⟨fun _ => dX11_told_107, fun q => (by cases q), fun q => (by cases q)⟩)) | (simp; exact (kSt_ret (tag := 0) (kE_call (kEs_snoc kEs_nil (kE_get (kE_aload_0 dX11_told_100) lf_RX11_41 dX11_told_101)) dX11_told_104 c_Twice_bridges mv_Twice_bridges lm_RX11_291 ⟨rfl, rfl, by decide, by decide⟩ (by decide)) ⟨fun _ => dX11_told_107, fun q => (by cases q), fun q => (by cases q)⟩))⟩
    by_cases h5 : z = 5
    · subst h5; exact ⟨108, Or.inr ⟨by decide, by decide, 107, rfl, by decide⟩, by
      first | (simp only [reduceIte, Int.reduceEq]; exact (kSt_ret (tag := 0) (kE_call (kEs_snoc kEs_nil (kE_get (kE_aload_0 dX11_told_108) lf_RX11_55 dX11_told_109)) dX11_told_112 c_Strong_parts mv_Strong_parts lm_RX11_294 ⟨rfl, rfl, by decide, by decide⟩ (by decide)) ⟨fun _ => dX11_told_115, fun q => (by cases q), fun q => (by cases q)⟩)) | (simp; exact (kSt_ret (tag := 0) (kE_call (kEs_snoc kEs_nil (kE_get (kE_aload_0 dX11_told_108) lf_RX11_55 dX11_told_109)) dX11_told_112 c_Strong_parts mv_Strong_parts lm_RX11_294 ⟨rfl, rfl, by decide, by decide⟩ (by decide)) ⟨fun _ => dX11_told_115, fun q => (by cases q), fun q => (by cases q)⟩))⟩
    by_cases h6 : z = 6
    · subst h6; exact ⟨116, Or.inr ⟨by decide, by decide, 115, rfl, by decide⟩, by
      first | (simp only [reduceIte, Int.reduceEq]; exact (kSt_ret (tag := 0) (kE_call (kEs_snoc kEs_nil (kE_get (kE_aload_0 dX11_told_116) lf_RX11_48 dX11_told_117)) dX11_told_120 c_Row_looseArcs mv_Row_looseArcs lm_RX11_295 ⟨rfl, rfl, by decide, by decide⟩ (by decide)) ⟨fun _ => dX11_told_123, fun q => (by cases q), fun q => (by cases q)⟩)) | (simp; exact (kSt_ret (tag := 0) (kE_call (kEs_snoc kEs_nil (kE_get (kE_aload_0 dX11_told_116) lf_RX11_48 dX11_told_117)) dX11_told_120 c_Row_looseArcs mv_Row_looseArcs lm_RX11_295 ⟨rfl, rfl, by decide, by decide⟩ (by decide)) ⟨fun _ => dX11_told_123, fun q => (by cases q), fun q => (by cases q)⟩))⟩
    by_cases h7 : z = 7
    · subst h7; exact ⟨124, Or.inr ⟨by decide, by decide, 123, rfl, by decide⟩, by
      first | (simp only [reduceIte, Int.reduceEq]; exact (kSt_ret (tag := 0) (kE_call (kEs_snoc kEs_nil (kE_get (kE_aload_0 dX11_told_124) lf_RX11_69 dX11_told_125)) dX11_told_128 c_Chosen_size mv_Chosen_size lm_RX11_298 ⟨rfl, rfl, by decide, by decide⟩ (by decide)) ⟨fun _ => dX11_told_131, fun q => (by cases q), fun q => (by cases q)⟩)) | (simp; exact (kSt_ret (tag := 0) (kE_call (kEs_snoc kEs_nil (kE_get (kE_aload_0 dX11_told_124) lf_RX11_69 dX11_told_125)) dX11_told_128 c_Chosen_size mv_Chosen_size lm_RX11_298 ⟨rfl, rfl, by decide, by decide⟩ (by decide)) ⟨fun _ => dX11_told_131, fun q => (by cases q), fun q => (by cases q)⟩))⟩
    by_cases h8 : z = 8
    · subst h8; exact ⟨132, Or.inr ⟨by decide, by decide, 131, rfl, by decide⟩, by
      first | (simp only [reduceIte, Int.reduceEq]; exact (kSt_ret (tag := 0) (kE_call (kEs_snoc kEs_nil (kE_get (kE_aload_0 dX11_told_132) lf_RX11_62 dX11_told_133)) dX11_told_136 c_Sides_greatestCore mv_Sides_greatestCore lm_RX11_301 ⟨rfl, rfl, by decide, by decide⟩ (by decide)) ⟨fun _ => dX11_told_139, fun q => (by cases q), fun q => (by cases q)⟩)) | (simp; exact (kSt_ret (tag := 0) (kE_call (kEs_snoc kEs_nil (kE_get (kE_aload_0 dX11_told_132) lf_RX11_62 dX11_told_133)) dX11_told_136 c_Sides_greatestCore mv_Sides_greatestCore lm_RX11_301 ⟨rfl, rfl, by decide, by decide⟩ (by decide)) ⟨fun _ => dX11_told_139, fun q => (by cases q), fun q => (by cases q)⟩))⟩
    by_cases h9 : z = 9
    · subst h9; exact ⟨140, Or.inr ⟨by decide, by decide, 139, rfl, by decide⟩, by
      first | (simp only [reduceIte, Int.reduceEq]; exact (kSt_ret (tag := 0) (kE_call (kEs_snoc kEs_nil (kE_get (kE_aload_0 dX11_told_140) lf_RX11_25 dX11_told_141)) dX11_told_144 c_Trees_greatestLevel mv_Trees_greatestLevel lm_RX11_304 ⟨rfl, rfl, by decide, by decide⟩ (by decide)) ⟨fun _ => dX11_told_147, fun q => (by cases q), fun q => (by cases q)⟩)) | (simp; exact (kSt_ret (tag := 0) (kE_call (kEs_snoc kEs_nil (kE_get (kE_aload_0 dX11_told_140) lf_RX11_25 dX11_told_141)) dX11_told_144 c_Trees_greatestLevel mv_Trees_greatestLevel lm_RX11_304 ⟨rfl, rfl, by decide, by decide⟩ (by decide)) ⟨fun _ => dX11_told_147, fun q => (by cases q), fun q => (by cases q)⟩))⟩
    by_cases h10 : z = 10
    · subst h10; exact ⟨148, Or.inr ⟨by decide, by decide, 147, rfl, by decide⟩, by
      first | (simp only [reduceIte, Int.reduceEq]; exact (kSt_ret (tag := 0) (kE_call (kEs_snoc kEs_nil (kE_get (kE_aload_0 dX11_told_148) lf_RX11_25 dX11_told_149)) dX11_told_152 c_Trees_treeArcs mv_Trees_treeArcs lm_RX11_307 ⟨rfl, rfl, by decide, by decide⟩ (by decide)) ⟨fun _ => dX11_told_155, fun q => (by cases q), fun q => (by cases q)⟩)) | (simp; exact (kSt_ret (tag := 0) (kE_call (kEs_snoc kEs_nil (kE_get (kE_aload_0 dX11_told_148) lf_RX11_25 dX11_told_149)) dX11_told_152 c_Trees_treeArcs mv_Trees_treeArcs lm_RX11_307 ⟨rfl, rfl, by decide, by decide⟩ (by decide)) ⟨fun _ => dX11_told_155, fun q => (by cases q), fun q => (by cases q)⟩))⟩
    by_cases h11 : z = 11
    · subst h11; exact ⟨156, Or.inr ⟨by decide, by decide, 155, rfl, by decide⟩, by
      first | (simp only [reduceIte, Int.reduceEq]; exact (kSt_ret (tag := 0) (kE_get (kE_get (kE_aload_0 dX11_told_156) lf_RX11_85 dX11_told_157) lf_RX11_263 dX11_told_160) ⟨fun _ => dX11_told_163, fun q => (by cases q), fun q => (by cases q)⟩)) | (simp; exact (kSt_ret (tag := 0) (kE_get (kE_get (kE_aload_0 dX11_told_156) lf_RX11_85 dX11_told_157) lf_RX11_263 dX11_told_160) ⟨fun _ => dX11_told_163, fun q => (by cases q), fun q => (by cases q)⟩))⟩
    by_cases h12 : z = 12
    · subst h12; exact ⟨164, Or.inr ⟨by decide, by decide, 163, rfl, by decide⟩, by
      first | (simp only [reduceIte, Int.reduceEq]; exact (kSt_ret (tag := 0) (kE_get (kE_aload_0 dX11_told_164) lf_RX11_92 dX11_told_165) ⟨fun _ => dX11_told_168, fun q => (by cases q), fun q => (by cases q)⟩)) | (simp; exact (kSt_ret (tag := 0) (kE_get (kE_aload_0 dX11_told_164) lf_RX11_92 dX11_told_165) ⟨fun _ => dX11_told_168, fun q => (by cases q), fun q => (by cases q)⟩))⟩
    refine ⟨169, Or.inl ⟨by omega, by decide⟩, ?_⟩
    simp only [h0, h1, h2, h3, h4, h5, h6, h7, h8, h9, h10, h11, h12]; exact kSt_throw))
noncomputable def s_KP_sound : kSx :=
  (sRet 0 (eIf (cAnd (cAnd (cAnd (cAnd (cZ 1 (eCall 8 F_Trees_spanJust (eSnoc (eSnoc eNil (eGet 11 2 (eR 0))) (eGet 11 10 (eR 0))))) (cZ 1 (eCall 8 F_Trees_levelsHold (eSnoc (eSnoc eNil (eGet 11 2 (eR 0))) (eGet 11 10 (eR 0)))))) (cZ 1 (eCall 5 F_Row_holds (eSnoc eNil (eGet 11 5 (eR 0)))))) (cZ 1 (eCall 6 F_Sides_holds (eSnoc (eSnoc eNil (eGet 11 7 (eR 0))) (eGet 11 11 (eR 0)))))) (cZ 1 (eCall 0 F_Chosen_holds (eSnoc eNil (eGet 11 8 (eR 0)))))) (eK (1)) (eK (0))))
abbrev M_KP_sound : kM := (cX11_sound, yX11_sound.cls, 1, { frames := 5, cells := 0, slots := 0, locals := 118 }, (some .boolean))
set_option maxRecDepth 20000 in
theorem b_KP_sound : kSt M_KP_sound 0 0 0 0 s_KP_sound :=
  (kSt_ret (tag := 0) (kE_if (kCd_and (kCd_and (kCd_and (kCd_and (kCd_Z (kE_call (kEs_snoc (kEs_snoc kEs_nil (kE_get (kE_aload_0 dX11_sound_0) lf_RX11_25 dX11_sound_1)) (kE_get (kE_aload_0 dX11_sound_4) lf_RX11_76 dX11_sound_5)) dX11_sound_8 c_Trees_spanJust mv_Trees_spanJust lm_RX11_310 ⟨rfl, rfl, by decide, by decide⟩ (by decide)) (kZf_1 (tgt := 66) dX11_sound_11 (by decide))) (kCd_Z (kE_call (kEs_snoc (kEs_snoc kEs_nil (kE_get (kE_aload_0 dX11_sound_14) lf_RX11_25 dX11_sound_15)) (kE_get (kE_aload_0 dX11_sound_18) lf_RX11_76 dX11_sound_19)) dX11_sound_22 c_Trees_levelsHold mv_Trees_levelsHold lm_RX11_314 ⟨rfl, rfl, by decide, by decide⟩ (by decide)) (kZf_1 (tgt := 66) dX11_sound_25 (by decide)))) (kCd_Z (kE_call (kEs_snoc kEs_nil (kE_get (kE_aload_0 dX11_sound_28) lf_RX11_48 dX11_sound_29)) dX11_sound_32 c_Row_holds mv_Row_holds lm_RX11_317 ⟨rfl, rfl, by decide, by decide⟩ (by decide)) (kZf_1 (tgt := 66) dX11_sound_35 (by decide)))) (kCd_Z (kE_call (kEs_snoc (kEs_snoc kEs_nil (kE_get (kE_aload_0 dX11_sound_38) lf_RX11_62 dX11_sound_39)) (kE_get (kE_aload_0 dX11_sound_42) lf_RX11_89 dX11_sound_43)) dX11_sound_46 c_Sides_holds mv_Sides_holds lm_RX11_320 ⟨rfl, rfl, by decide, by decide⟩ (by decide)) (kZf_1 (tgt := 66) dX11_sound_49 (by decide)))) (kCd_Z (kE_call (kEs_snoc kEs_nil (kE_get (kE_aload_0 dX11_sound_52) lf_RX11_69 dX11_sound_53)) dX11_sound_56 c_Chosen_holds mv_Chosen_holds lm_RX11_323 ⟨rfl, rfl, by decide, by decide⟩ (by decide)) (kZf_1 (tgt := 66) dX11_sound_59 (by decide)))) (kE_goto (tgt := 67) (kE_ic_1 dX11_sound_62) dX11_sound_63 (by decide)) (kE_ic_0 dX11_sound_66)) ⟨fun _ => dX11_sound_67, fun q => (by cases q), fun q => (by cases q)⟩)
noncomputable def F_KP_sound : kFn := kF 1 kZ s_KP_sound
theorem c_KP_sound : kCon yX11_sound cX11_sound 1 (some .boolean) { frames := 5, cells := 0, slots := 0, locals := 118 } F_KP_sound := kCon_of kEnds_Z (by decide +kernel) (by decide) ⟨0, 0, 0, b_KP_sound⟩
noncomputable def s_KP_clear : kSx :=
  (sSeq (sSeq (sE (eCall 4 F_Plan_forget (eSnoc eNil (eGet 11 9 (eR 0)))))
  (sSeq (sCall 10 F_Web_empty (eSnoc eNil (eGet 11 1 (eR 0))))
  (sSeq (sCall 5 F_Row_empty (eSnoc eNil (eGet 11 5 (eR 0))))
  (sPut 11 12 (eR 0) (eK (0)))))) sRetV)
abbrev M_KP_clear : kM := (cX11_clear, yX11_clear.cls, 1, { frames := 2, cells := 0, slots := 0, locals := 44 }, none)
set_option maxRecDepth 20000 in
theorem b_KP_clear : kSt M_KP_clear 0 0 0 0 s_KP_clear :=
  (kSt_seq (kSt_seq (p1 := 8) (kSt_E (kE_call (kEs_snoc kEs_nil (kE_get (kE_aload_0 dX11_clear_0) lf_RX11_85 dX11_clear_1)) dX11_clear_4 c_Plan_forget mv_Plan_forget lm_RX11_106 ⟨rfl, rfl, by decide, by decide⟩ (by decide)) dX11_clear_7)
  (kSt_seq (p1 := 15) (kSt_call (kEs_snoc kEs_nil (kE_get (kE_aload_0 dX11_clear_8) lf_RX11_16 dX11_clear_9)) dX11_clear_12 c_Web_empty mv_Web_empty lm_RX11_324 ⟨rfl, rfl, by decide, by decide⟩)
  (kSt_seq (p1 := 22) (kSt_call (kEs_snoc kEs_nil (kE_get (kE_aload_0 dX11_clear_15) lf_RX11_48 dX11_clear_16)) dX11_clear_19 c_Row_empty mv_Row_empty lm_RX11_327 ⟨rfl, rfl, by decide, by decide⟩)
  (kSt_put (kE_aload_0 dX11_clear_22) (kE_ic_0 dX11_clear_23) lp_RX11_92 dX11_clear_24)))) (kSt_retV dX11_clear_27))
noncomputable def F_KP_clear : kFn := kF 1 kN s_KP_clear
theorem c_KP_clear : kCon yX11_clear cX11_clear 1 none { frames := 2, cells := 0, slots := 0, locals := 44 } F_KP_clear := kCon_of kEnds_V (by decide +kernel) (by decide) ⟨0, 0, 0, b_KP_clear⟩
