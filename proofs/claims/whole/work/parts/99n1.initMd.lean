/-! CONSTRUCTORS: the last ones (printed by gen3.py) -/
section NM
variable {M : kM} {B : nB} {k n k' n' pc : Nat} {L : List (Nat × Value)} {st : List Value} {ws : va_W}
theorem n_str {p5 p6 : Nat} {o1 o2 : Int} {f : Int32} (C : nC M B) (d0 : decode M.1 pc = .ok (.if_icmp .ne o1, 3)) (h0 : (pc : Int) + o1 = (p5 : Int)) (d3 : decode M.1 (pc + 3) = .ok (.iconst 1, 1)) (d4 : decode M.1 (pc + 3 + 1) = .ok (.goto o2, 3)) (h4 : ((pc + 3 + 1 : Nat) : Int) + o2 = (p6 : Int)) (d5 : decode M.1 p5 = .ok (.iconst 0, 1)) (h5 : p5 + 1 = p6)
    (kk : nW M B k n p6 L (.int (nStr (.int f)) :: st) ws) : nW M B k n pc L (.int 1 :: .int f :: st) ws := by
  refine n_icmp_ne C d0 h0 (fun h => ?_) (fun h => ?_)
  · have e0 : nStr (.int f) = 0 := if_neg h
    rw [e0, ← h5] at kk
    exact n_iconst C d5 rfl kk
  · have e0 : nStr (.int f) = 1 := if_pos h
    rw [e0] at kk
    exact n_iconst C d3 rfl (n_goto C d4 h4 kk)
theorem n_mkI {ci N' N idx j a : Nat} {x : Int32} {T : u_T} {ty : Nat → FieldType} {fs : List Value} (C : nC M B) (hN : nN B) (hc : nCl ci M.2.1 T N' ty) (hd : decode M.1 pc = .ok (.newarray .int, 2)) (hw : Cond.arrayClass .int ∈ kTBL) (hz : ¬ x < 0 ∧ x.toNatClampNeg = N ∧ N * componentBytes .int ≤ 536870912) (hk : k + 1 = k' ∧ n + N = n' ∧ k' ≤ M.2.2.2.1.cells ∧ n' ≤ M.2.2.2.1.slots)
    (hd2 : decode M.1 (pc + 2) = .ok (.putfield idx, 3)) (hw2 : Cond.fieldLink M.2.1 idx (T j).1 (T j).2.1 (T j).2.2.1 ∈ kTBL) (hj : j < N' ∧ (T j).2.2.2 = true ∧ (T j).1 = M.2.1) (hty : ty j = .array .int) (hl : fs.length = N')
    (kk : ∀ q : Nat, (fs.set j (.ref q)).length = N' → nW M B k' n' (pc + 2 + 3) L st ((a, .inr (ci, fs.set j (.ref q))) :: (ws ++ [(q, .inl ((nGof B).2.1.1, N, .inl (fun _ => Int32.ofInt 0)))]))) : nW M B k n pc L (.int x :: .ref a :: st) ((a, .inr (ci, fs)) :: ws) := by
  refine n_newi C hd hw hz hk (fun q => ?_)
  exact n_putF (ws := ws ++ [(q, .inl ((nGof B).2.1.1, N, .inl (fun _ => Int32.ofInt 0)))]) C hN hc hd2 hw2 ⟨hj.1, by rw [hl]; exact hj.1, hj.2.1, hj.2.2⟩ (by rw [hty]; rfl) (by rw [hty]; rfl) (kk q (by rw [List.length_set]; exact hl))
theorem n_mkB {ci N' N idx j a : Nat} {x : Int32} {T : u_T} {ty : Nat → FieldType} {fs : List Value} (C : nC M B) (hN : nN B) (hc : nCl ci M.2.1 T N' ty) (hd : decode M.1 pc = .ok (.newarray .boolean, 2)) (hw : Cond.arrayClass .boolean ∈ kTBL) (hz : ¬ x < 0 ∧ x.toNatClampNeg = N ∧ N * componentBytes .boolean ≤ 536870912) (hk : k + 1 = k' ∧ n + N = n' ∧ k' ≤ M.2.2.2.1.cells ∧ n' ≤ M.2.2.2.1.slots)
    (hd2 : decode M.1 (pc + 2) = .ok (.putfield idx, 3)) (hw2 : Cond.fieldLink M.2.1 idx (T j).1 (T j).2.1 (T j).2.2.1 ∈ kTBL) (hj : j < N' ∧ (T j).2.2.2 = true ∧ (T j).1 = M.2.1) (hty : ty j = .array .boolean) (hl : fs.length = N')
    (kk : ∀ q : Nat, (fs.set j (.ref q)).length = N' → nW M B k' n' (pc + 2 + 3) L st ((a, .inr (ci, fs.set j (.ref q))) :: (ws ++ [(q, .inl ((nGof B).2.1.2.1, N, .inl (fun _ => Int32.ofInt 0)))]))) : nW M B k n pc L (.int x :: .ref a :: st) ((a, .inr (ci, fs)) :: ws) := by
  refine n_newb C hd hw hz hk (fun q => ?_)
  exact n_putF (ws := ws ++ [(q, .inl ((nGof B).2.1.2.1, N, .inl (fun _ => Int32.ofInt 0)))]) C hN hc hd2 hw2 ⟨hj.1, by rw [hl]; exact hj.1, hj.2.1, hj.2.2⟩ (by rw [hty]; rfl) (by rw [hty]; rfl) (kk q (by rw [List.length_set]; exact hl))
end NM
set_option maxRecDepth 100000 in
set_option maxHeartbeats 4000000 in
theorem nk12_1 {B : nB} {a : Nat} {w0 : Int32} {fs : List Value} {ws : va_W} (C : nC (cX12_init, yX12_init.cls, 2, { frames := 1, cells := 40, slots := 140561, locals := 12 }, none) B) (hN : nN B) (hl : fs.length = 50)
    (kk : ∀ q8 q17 q26 q35 q44 q53 q62 q71 : Nat, nW (cX12_init, yX12_init.cls, 2, { frames := 1, cells := 40, slots := 140561, locals := 12 }, none) B 8 31201 76 (lv_args 0 [.ref a, .int w0]) [] ((a, .inr (12, ((((((((fs.set 2 (.ref q8)).set 4 (.ref q17)).set 5 (.ref q26)).set 6 (.ref q35)).set 7 (.ref q44)).set 8 (.ref q53)).set 9 (.ref q62)).set 11 (.ref q71)))) :: (ws ++ [(q8, .inl ((nGof B).2.1.1, 300, .inl (fun _ => Int32.ofInt 0)))] ++ [(q17, .inl ((nGof B).2.1.1, 5000, .inl (fun _ => Int32.ofInt 0)))] ++ [(q26, .inl ((nGof B).2.1.1, 5000, .inl (fun _ => Int32.ofInt 0)))] ++ [(q35, .inl ((nGof B).2.1.1, 5000, .inl (fun _ => Int32.ofInt 0)))] ++ [(q44, .inl ((nGof B).2.1.2.1, 5000, .inl (fun _ => Int32.ofInt 0)))] ++ [(q53, .inl ((nGof B).2.1.2.1, 5000, .inl (fun _ => Int32.ofInt 0)))] ++ [(q62, .inl ((nGof B).2.1.2.1, 5000, .inl (fun _ => Int32.ofInt 0)))] ++ [(q71, .inl ((nGof B).2.1.1, 901, .inl (fun _ => Int32.ofInt 0)))]))) : nW (cX12_init, yX12_init.cls, 2, { frames := 1, cells := 40, slots := 140561, locals := 12 }, none) B 0 0 4 (lv_args 0 [.ref a, .int w0]) [] ((a, .inr (12, fs)) :: ws) := by
  refine n_aload C 0 dX12_init_4 rfl ?_
  refine n_sipush (v := 300) C dX12_init_5 rfl ?_
  refine n_mkI (j := 2) (N := 300) (k' := 1) (n' := 300) C hN ncl12 dX12_init_8 w_arr_int ⟨by decide, by decide, by decide⟩ ⟨rfl, rfl, by decide, by decide⟩ dX12_init_10 (ktb5 217 (by decide +kernel) (by decide +kernel)) ⟨by decide, rfl, rfl⟩ rfl hl (fun q8 hl => ?_)
  refine n_aload C 0 dX12_init_13 rfl ?_
  refine n_sipush (v := 5000) C dX12_init_14 rfl ?_
  refine n_mkI (j := 4) (N := 5000) (k' := 2) (n' := 5300) C hN ncl12 dX12_init_17 w_arr_int ⟨by decide, by decide, by decide⟩ ⟨rfl, rfl, by decide, by decide⟩ dX12_init_19 (ktb5 219 (by decide +kernel) (by decide +kernel)) ⟨by decide, rfl, rfl⟩ rfl hl (fun q17 hl => ?_)
  refine n_aload C 0 dX12_init_22 rfl ?_
  refine n_sipush (v := 5000) C dX12_init_23 rfl ?_
  refine n_mkI (j := 5) (N := 5000) (k' := 3) (n' := 10300) C hN ncl12 dX12_init_26 w_arr_int ⟨by decide, by decide, by decide⟩ ⟨rfl, rfl, by decide, by decide⟩ dX12_init_28 (ktb5 220 (by decide +kernel) (by decide +kernel)) ⟨by decide, rfl, rfl⟩ rfl hl (fun q26 hl => ?_)
  refine n_aload C 0 dX12_init_31 rfl ?_
  refine n_sipush (v := 5000) C dX12_init_32 rfl ?_
  refine n_mkI (j := 6) (N := 5000) (k' := 4) (n' := 15300) C hN ncl12 dX12_init_35 w_arr_int ⟨by decide, by decide, by decide⟩ ⟨rfl, rfl, by decide, by decide⟩ dX12_init_37 (ktb5 221 (by decide +kernel) (by decide +kernel)) ⟨by decide, rfl, rfl⟩ rfl hl (fun q35 hl => ?_)
  refine n_aload C 0 dX12_init_40 rfl ?_
  refine n_sipush (v := 5000) C dX12_init_41 rfl ?_
  refine n_mkB (j := 7) (N := 5000) (k' := 5) (n' := 20300) C hN ncl12 dX12_init_44 w_arr_boolean ⟨by decide, by decide, by decide⟩ ⟨rfl, rfl, by decide, by decide⟩ dX12_init_46 (ktb5 222 (by decide +kernel) (by decide +kernel)) ⟨by decide, rfl, rfl⟩ rfl hl (fun q44 hl => ?_)
  refine n_aload C 0 dX12_init_49 rfl ?_
  refine n_sipush (v := 5000) C dX12_init_50 rfl ?_
  refine n_mkB (j := 8) (N := 5000) (k' := 6) (n' := 25300) C hN ncl12 dX12_init_53 w_arr_boolean ⟨by decide, by decide, by decide⟩ ⟨rfl, rfl, by decide, by decide⟩ dX12_init_55 (ktb5 223 (by decide +kernel) (by decide +kernel)) ⟨by decide, rfl, rfl⟩ rfl hl (fun q53 hl => ?_)
  refine n_aload C 0 dX12_init_58 rfl ?_
  refine n_sipush (v := 5000) C dX12_init_59 rfl ?_
  refine n_mkB (j := 9) (N := 5000) (k' := 7) (n' := 30300) C hN ncl12 dX12_init_62 w_arr_boolean ⟨by decide, by decide, by decide⟩ ⟨rfl, rfl, by decide, by decide⟩ dX12_init_64 (ktb5 224 (by decide +kernel) (by decide +kernel)) ⟨by decide, rfl, rfl⟩ rfl hl (fun q62 hl => ?_)
  refine n_aload C 0 dX12_init_67 rfl ?_
  refine n_sipush (v := 901) C dX12_init_68 rfl ?_
  refine n_mkI (j := 11) (N := 901) (k' := 8) (n' := 31201) C hN ncl12 dX12_init_71 w_arr_int ⟨by decide, by decide, by decide⟩ ⟨rfl, rfl, by decide, by decide⟩ dX12_init_73 (ktb5 226 (by decide +kernel) (by decide +kernel)) ⟨by decide, rfl, rfl⟩ rfl hl (fun q71 hl => ?_)
  exact kk q8 q17 q26 q35 q44 q53 q62 q71
set_option maxRecDepth 100000 in
set_option maxHeartbeats 4000000 in
theorem nk12_2 {B : nB} {a : Nat} {w0 : Int32} {fs : List Value} {ws : va_W} (C : nC (cX12_init, yX12_init.cls, 2, { frames := 1, cells := 40, slots := 140561, locals := 12 }, none) B) (hN : nN B) (hl : fs.length = 50)
    (kk : ∀ q80 q89 q98 q106 q114 q122 q130 q139 : Nat, nW (cX12_init, yX12_init.cls, 2, { frames := 1, cells := 40, slots := 140561, locals := 12 }, none) B 16 32641 144 (lv_args 0 [.ref a, .int w0]) [] ((a, .inr (12, ((((((((fs.set 12 (.ref q80)).set 13 (.ref q89)).set 15 (.ref q98)).set 18 (.ref q106)).set 19 (.ref q114)).set 20 (.ref q122)).set 21 (.ref q130)).set 23 (.ref q139)))) :: (ws ++ [(q80, .inl ((nGof B).2.1.1, 300, .inl (fun _ => Int32.ofInt 0)))] ++ [(q89, .inl ((nGof B).2.1.1, 300, .inl (fun _ => Int32.ofInt 0)))] ++ [(q98, .inl ((nGof B).2.1.1, 300, .inl (fun _ => Int32.ofInt 0)))] ++ [(q106, .inl ((nGof B).2.1.2.1, 60, .inl (fun _ => Int32.ofInt 0)))] ++ [(q114, .inl ((nGof B).2.1.1, 60, .inl (fun _ => Int32.ofInt 0)))] ++ [(q122, .inl ((nGof B).2.1.1, 60, .inl (fun _ => Int32.ofInt 0)))] ++ [(q130, .inl ((nGof B).2.1.1, 60, .inl (fun _ => Int32.ofInt 0)))] ++ [(q139, .inl ((nGof B).2.1.2.1, 300, .inl (fun _ => Int32.ofInt 0)))]))) : nW (cX12_init, yX12_init.cls, 2, { frames := 1, cells := 40, slots := 140561, locals := 12 }, none) B 8 31201 76 (lv_args 0 [.ref a, .int w0]) [] ((a, .inr (12, fs)) :: ws) := by
  refine n_aload C 0 dX12_init_76 rfl ?_
  refine n_sipush (v := 300) C dX12_init_77 rfl ?_
  refine n_mkI (j := 12) (N := 300) (k' := 9) (n' := 31501) C hN ncl12 dX12_init_80 w_arr_int ⟨by decide, by decide, by decide⟩ ⟨rfl, rfl, by decide, by decide⟩ dX12_init_82 (ktb5 227 (by decide +kernel) (by decide +kernel)) ⟨by decide, rfl, rfl⟩ rfl hl (fun q80 hl => ?_)
  refine n_aload C 0 dX12_init_85 rfl ?_
  refine n_sipush (v := 300) C dX12_init_86 rfl ?_
  refine n_mkI (j := 13) (N := 300) (k' := 10) (n' := 31801) C hN ncl12 dX12_init_89 w_arr_int ⟨by decide, by decide, by decide⟩ ⟨rfl, rfl, by decide, by decide⟩ dX12_init_91 (ktb5 228 (by decide +kernel) (by decide +kernel)) ⟨by decide, rfl, rfl⟩ rfl hl (fun q89 hl => ?_)
  refine n_aload C 0 dX12_init_94 rfl ?_
  refine n_sipush (v := 300) C dX12_init_95 rfl ?_
  refine n_mkI (j := 15) (N := 300) (k' := 11) (n' := 32101) C hN ncl12 dX12_init_98 w_arr_int ⟨by decide, by decide, by decide⟩ ⟨rfl, rfl, by decide, by decide⟩ dX12_init_100 (ktb5 230 (by decide +kernel) (by decide +kernel)) ⟨by decide, rfl, rfl⟩ rfl hl (fun q98 hl => ?_)
  refine n_aload C 0 dX12_init_103 rfl ?_
  refine n_bipush (v := 60) C dX12_init_104 rfl ?_
  refine n_mkB (j := 18) (N := 60) (k' := 12) (n' := 32161) C hN ncl12 dX12_init_106 w_arr_boolean ⟨by decide, by decide, by decide⟩ ⟨rfl, rfl, by decide, by decide⟩ dX12_init_108 (ktb5 233 (by decide +kernel) (by decide +kernel)) ⟨by decide, rfl, rfl⟩ rfl hl (fun q106 hl => ?_)
  refine n_aload C 0 dX12_init_111 rfl ?_
  refine n_bipush (v := 60) C dX12_init_112 rfl ?_
  refine n_mkI (j := 19) (N := 60) (k' := 13) (n' := 32221) C hN ncl12 dX12_init_114 w_arr_int ⟨by decide, by decide, by decide⟩ ⟨rfl, rfl, by decide, by decide⟩ dX12_init_116 (ktb5 234 (by decide +kernel) (by decide +kernel)) ⟨by decide, rfl, rfl⟩ rfl hl (fun q114 hl => ?_)
  refine n_aload C 0 dX12_init_119 rfl ?_
  refine n_bipush (v := 60) C dX12_init_120 rfl ?_
  refine n_mkI (j := 20) (N := 60) (k' := 14) (n' := 32281) C hN ncl12 dX12_init_122 w_arr_int ⟨by decide, by decide, by decide⟩ ⟨rfl, rfl, by decide, by decide⟩ dX12_init_124 (ktb5 235 (by decide +kernel) (by decide +kernel)) ⟨by decide, rfl, rfl⟩ rfl hl (fun q122 hl => ?_)
  refine n_aload C 0 dX12_init_127 rfl ?_
  refine n_bipush (v := 60) C dX12_init_128 rfl ?_
  refine n_mkI (j := 21) (N := 60) (k' := 15) (n' := 32341) C hN ncl12 dX12_init_130 w_arr_int ⟨by decide, by decide, by decide⟩ ⟨rfl, rfl, by decide, by decide⟩ dX12_init_132 (ktb5 236 (by decide +kernel) (by decide +kernel)) ⟨by decide, rfl, rfl⟩ rfl hl (fun q130 hl => ?_)
  refine n_aload C 0 dX12_init_135 rfl ?_
  refine n_sipush (v := 300) C dX12_init_136 rfl ?_
  refine n_mkB (j := 23) (N := 300) (k' := 16) (n' := 32641) C hN ncl12 dX12_init_139 w_arr_boolean ⟨by decide, by decide, by decide⟩ ⟨rfl, rfl, by decide, by decide⟩ dX12_init_141 (ktb5 238 (by decide +kernel) (by decide +kernel)) ⟨by decide, rfl, rfl⟩ rfl hl (fun q139 hl => ?_)
  exact kk q80 q89 q98 q106 q114 q122 q130 q139
set_option maxRecDepth 100000 in
set_option maxHeartbeats 4000000 in
theorem nk12_3 {B : nB} {a : Nat} {w0 : Int32} {fs : List Value} {ws : va_W} (C : nC (cX12_init, yX12_init.cls, 2, { frames := 1, cells := 40, slots := 140561, locals := 12 }, none) B) (hN : nN B) (hl : fs.length = 50)
    (kk : ∀ q148 q157 q166 q175 q184 q193 q202 q211 : Nat, nW (cX12_init, yX12_init.cls, 2, { frames := 1, cells := 40, slots := 140561, locals := 12 }, none) B 24 44741 216 (lv_args 0 [.ref a, .int w0]) [] ((a, .inr (12, ((((((((fs.set 24 (.ref q148)).set 25 (.ref q157)).set 26 (.ref q166)).set 28 (.ref q175)).set 29 (.ref q184)).set 30 (.ref q193)).set 31 (.ref q202)).set 32 (.ref q211)))) :: (ws ++ [(q148, .inl ((nGof B).2.1.1, 300, .inl (fun _ => Int32.ofInt 0)))] ++ [(q157, .inl ((nGof B).2.1.1, 300, .inl (fun _ => Int32.ofInt 0)))] ++ [(q166, .inl ((nGof B).2.1.1, 300, .inl (fun _ => Int32.ofInt 0)))] ++ [(q175, .inl ((nGof B).2.1.1, 300, .inl (fun _ => Int32.ofInt 0)))] ++ [(q184, .inl ((nGof B).2.1.1, 10000, .inl (fun _ => Int32.ofInt 0)))] ++ [(q193, .inl ((nGof B).2.1.2.1, 300, .inl (fun _ => Int32.ofInt 0)))] ++ [(q202, .inl ((nGof B).2.1.2.1, 300, .inl (fun _ => Int32.ofInt 0)))] ++ [(q211, .inl ((nGof B).2.1.1, 300, .inl (fun _ => Int32.ofInt 0)))]))) : nW (cX12_init, yX12_init.cls, 2, { frames := 1, cells := 40, slots := 140561, locals := 12 }, none) B 16 32641 144 (lv_args 0 [.ref a, .int w0]) [] ((a, .inr (12, fs)) :: ws) := by
  refine n_aload C 0 dX12_init_144 rfl ?_
  refine n_sipush (v := 300) C dX12_init_145 rfl ?_
  refine n_mkI (j := 24) (N := 300) (k' := 17) (n' := 32941) C hN ncl12 dX12_init_148 w_arr_int ⟨by decide, by decide, by decide⟩ ⟨rfl, rfl, by decide, by decide⟩ dX12_init_150 (ktb5 239 (by decide +kernel) (by decide +kernel)) ⟨by decide, rfl, rfl⟩ rfl hl (fun q148 hl => ?_)
  refine n_aload C 0 dX12_init_153 rfl ?_
  refine n_sipush (v := 300) C dX12_init_154 rfl ?_
  refine n_mkI (j := 25) (N := 300) (k' := 18) (n' := 33241) C hN ncl12 dX12_init_157 w_arr_int ⟨by decide, by decide, by decide⟩ ⟨rfl, rfl, by decide, by decide⟩ dX12_init_159 (ktb6 0 (by decide +kernel) (by decide +kernel)) ⟨by decide, rfl, rfl⟩ rfl hl (fun q157 hl => ?_)
  refine n_aload C 0 dX12_init_162 rfl ?_
  refine n_sipush (v := 300) C dX12_init_163 rfl ?_
  refine n_mkI (j := 26) (N := 300) (k' := 19) (n' := 33541) C hN ncl12 dX12_init_166 w_arr_int ⟨by decide, by decide, by decide⟩ ⟨rfl, rfl, by decide, by decide⟩ dX12_init_168 (ktb6 1 (by decide +kernel) (by decide +kernel)) ⟨by decide, rfl, rfl⟩ rfl hl (fun q166 hl => ?_)
  refine n_aload C 0 dX12_init_171 rfl ?_
  refine n_sipush (v := 300) C dX12_init_172 rfl ?_
  refine n_mkI (j := 28) (N := 300) (k' := 20) (n' := 33841) C hN ncl12 dX12_init_175 w_arr_int ⟨by decide, by decide, by decide⟩ ⟨rfl, rfl, by decide, by decide⟩ dX12_init_177 (ktb6 3 (by decide +kernel) (by decide +kernel)) ⟨by decide, rfl, rfl⟩ rfl hl (fun q175 hl => ?_)
  refine n_aload C 0 dX12_init_180 rfl ?_
  refine n_sipush (v := 10000) C dX12_init_181 rfl ?_
  refine n_mkI (j := 29) (N := 10000) (k' := 21) (n' := 43841) C hN ncl12 dX12_init_184 w_arr_int ⟨by decide, by decide, by decide⟩ ⟨rfl, rfl, by decide, by decide⟩ dX12_init_186 (ktb6 4 (by decide +kernel) (by decide +kernel)) ⟨by decide, rfl, rfl⟩ rfl hl (fun q184 hl => ?_)
  refine n_aload C 0 dX12_init_189 rfl ?_
  refine n_sipush (v := 300) C dX12_init_190 rfl ?_
  refine n_mkB (j := 30) (N := 300) (k' := 22) (n' := 44141) C hN ncl12 dX12_init_193 w_arr_boolean ⟨by decide, by decide, by decide⟩ ⟨rfl, rfl, by decide, by decide⟩ dX12_init_195 (ktb6 5 (by decide +kernel) (by decide +kernel)) ⟨by decide, rfl, rfl⟩ rfl hl (fun q193 hl => ?_)
  refine n_aload C 0 dX12_init_198 rfl ?_
  refine n_sipush (v := 300) C dX12_init_199 rfl ?_
  refine n_mkB (j := 31) (N := 300) (k' := 23) (n' := 44441) C hN ncl12 dX12_init_202 w_arr_boolean ⟨by decide, by decide, by decide⟩ ⟨rfl, rfl, by decide, by decide⟩ dX12_init_204 (ktb6 6 (by decide +kernel) (by decide +kernel)) ⟨by decide, rfl, rfl⟩ rfl hl (fun q202 hl => ?_)
  refine n_aload C 0 dX12_init_207 rfl ?_
  refine n_sipush (v := 300) C dX12_init_208 rfl ?_
  refine n_mkI (j := 32) (N := 300) (k' := 24) (n' := 44741) C hN ncl12 dX12_init_211 w_arr_int ⟨by decide, by decide, by decide⟩ ⟨rfl, rfl, by decide, by decide⟩ dX12_init_213 (ktb6 7 (by decide +kernel) (by decide +kernel)) ⟨by decide, rfl, rfl⟩ rfl hl (fun q211 hl => ?_)
  exact kk q148 q157 q166 q175 q184 q193 q202 q211
set_option maxRecDepth 100000 in
set_option maxHeartbeats 4000000 in
theorem nk12_4 {B : nB} {a : Nat} {w0 : Int32} {fs : List Value} {ws : va_W} (C : nC (cX12_init, yX12_init.cls, 2, { frames := 1, cells := 40, slots := 140561, locals := 12 }, none) B) (hN : nN B) (hl : fs.length = 50)
    (kk : ∀ q220 q229 q238 q246 q255 q264 q273 q282 : Nat, nW (cX12_init, yX12_init.cls, 2, { frames := 1, cells := 40, slots := 140561, locals := 12 }, none) B 32 136841 287 (lv_args 0 [.ref a, .int w0]) [] ((a, .inr (12, ((((((((fs.set 33 (.ref q220)).set 34 (.ref q229)).set 35 (.ref q238)).set 36 (.ref q246)).set 37 (.ref q255)).set 38 (.ref q264)).set 39 (.ref q273)).set 40 (.ref q282)))) :: (ws ++ [(q220, .inl ((nGof B).2.1.2.1, 300, .inl (fun _ => Int32.ofInt 0)))] ++ [(q229, .inl ((nGof B).2.1.2.1, 300, .inl (fun _ => Int32.ofInt 0)))] ++ [(q238, .inl ((nGof B).2.1.2.1, 300, .inl (fun _ => Int32.ofInt 0)))] ++ [(q246, .inl ((nGof B).2.1.2.1, 90000, .inl (fun _ => Int32.ofInt 0)))] ++ [(q255, .inl ((nGof B).2.1.1, 300, .inl (fun _ => Int32.ofInt 0)))] ++ [(q264, .inl ((nGof B).2.1.2.1, 300, .inl (fun _ => Int32.ofInt 0)))] ++ [(q273, .inl ((nGof B).2.1.2.1, 300, .inl (fun _ => Int32.ofInt 0)))] ++ [(q282, .inl ((nGof B).2.1.2.1, 300, .inl (fun _ => Int32.ofInt 0)))]))) : nW (cX12_init, yX12_init.cls, 2, { frames := 1, cells := 40, slots := 140561, locals := 12 }, none) B 24 44741 216 (lv_args 0 [.ref a, .int w0]) [] ((a, .inr (12, fs)) :: ws) := by
  refine n_aload C 0 dX12_init_216 rfl ?_
  refine n_sipush (v := 300) C dX12_init_217 rfl ?_
  refine n_mkB (j := 33) (N := 300) (k' := 25) (n' := 45041) C hN ncl12 dX12_init_220 w_arr_boolean ⟨by decide, by decide, by decide⟩ ⟨rfl, rfl, by decide, by decide⟩ dX12_init_222 (ktb6 8 (by decide +kernel) (by decide +kernel)) ⟨by decide, rfl, rfl⟩ rfl hl (fun q220 hl => ?_)
  refine n_aload C 0 dX12_init_225 rfl ?_
  refine n_sipush (v := 300) C dX12_init_226 rfl ?_
  refine n_mkB (j := 34) (N := 300) (k' := 26) (n' := 45341) C hN ncl12 dX12_init_229 w_arr_boolean ⟨by decide, by decide, by decide⟩ ⟨rfl, rfl, by decide, by decide⟩ dX12_init_231 (ktb6 9 (by decide +kernel) (by decide +kernel)) ⟨by decide, rfl, rfl⟩ rfl hl (fun q229 hl => ?_)
  refine n_aload C 0 dX12_init_234 rfl ?_
  refine n_sipush (v := 300) C dX12_init_235 rfl ?_
  refine n_mkB (j := 35) (N := 300) (k' := 27) (n' := 45641) C hN ncl12 dX12_init_238 w_arr_boolean ⟨by decide, by decide, by decide⟩ ⟨rfl, rfl, by decide, by decide⟩ dX12_init_240 (ktb6 10 (by decide +kernel) (by decide +kernel)) ⟨by decide, rfl, rfl⟩ rfl hl (fun q238 hl => ?_)
  refine n_aload C 0 dX12_init_243 rfl ?_
  refine n_ldc (v := 90000) C dX12_init_244 (ktb5 214 (by decide +kernel) (by decide +kernel)) ?_
  refine n_mkB (j := 36) (N := 90000) (k' := 28) (n' := 135641) C hN ncl12 dX12_init_246 w_arr_boolean ⟨by decide, by decide, by decide⟩ ⟨rfl, rfl, by decide, by decide⟩ dX12_init_248 (ktb6 11 (by decide +kernel) (by decide +kernel)) ⟨by decide, rfl, rfl⟩ rfl hl (fun q246 hl => ?_)
  refine n_aload C 0 dX12_init_251 rfl ?_
  refine n_sipush (v := 300) C dX12_init_252 rfl ?_
  refine n_mkI (j := 37) (N := 300) (k' := 29) (n' := 135941) C hN ncl12 dX12_init_255 w_arr_int ⟨by decide, by decide, by decide⟩ ⟨rfl, rfl, by decide, by decide⟩ dX12_init_257 (ktb6 12 (by decide +kernel) (by decide +kernel)) ⟨by decide, rfl, rfl⟩ rfl hl (fun q255 hl => ?_)
  refine n_aload C 0 dX12_init_260 rfl ?_
  refine n_sipush (v := 300) C dX12_init_261 rfl ?_
  refine n_mkB (j := 38) (N := 300) (k' := 30) (n' := 136241) C hN ncl12 dX12_init_264 w_arr_boolean ⟨by decide, by decide, by decide⟩ ⟨rfl, rfl, by decide, by decide⟩ dX12_init_266 (ktb6 13 (by decide +kernel) (by decide +kernel)) ⟨by decide, rfl, rfl⟩ rfl hl (fun q264 hl => ?_)
  refine n_aload C 0 dX12_init_269 rfl ?_
  refine n_sipush (v := 300) C dX12_init_270 rfl ?_
  refine n_mkB (j := 39) (N := 300) (k' := 31) (n' := 136541) C hN ncl12 dX12_init_273 w_arr_boolean ⟨by decide, by decide, by decide⟩ ⟨rfl, rfl, by decide, by decide⟩ dX12_init_275 (ktb6 14 (by decide +kernel) (by decide +kernel)) ⟨by decide, rfl, rfl⟩ rfl hl (fun q273 hl => ?_)
  refine n_aload C 0 dX12_init_278 rfl ?_
  refine n_sipush (v := 300) C dX12_init_279 rfl ?_
  refine n_mkB (j := 40) (N := 300) (k' := 32) (n' := 136841) C hN ncl12 dX12_init_282 w_arr_boolean ⟨by decide, by decide, by decide⟩ ⟨rfl, rfl, by decide, by decide⟩ dX12_init_284 (ktb6 15 (by decide +kernel) (by decide +kernel)) ⟨by decide, rfl, rfl⟩ rfl hl (fun q282 hl => ?_)
  exact kk q220 q229 q238 q246 q255 q264 q273 q282
set_option maxRecDepth 100000 in
set_option maxHeartbeats 4000000 in
theorem nk12_5 {B : nB} {a : Nat} {w0 : Int32} {fs : List Value} {ws : va_W} (C : nC (cX12_init, yX12_init.cls, 2, { frames := 1, cells := 40, slots := 140561, locals := 12 }, none) B) (hN : nN B) (hl : fs.length = 50)
    (kk : ∀ q291 q300 q309 q318 q327 q336 q345 q354 : Nat, nW (cX12_init, yX12_init.cls, 2, { frames := 1, cells := 40, slots := 140561, locals := 12 }, none) B 40 140561 359 (lv_args 0 [.ref a, .int w0]) [] ((a, .inr (12, ((((((((fs.set 41 (.ref q291)).set 42 (.ref q300)).set 43 (.ref q309)).set 45 (.ref q318)).set 46 (.ref q327)).set 47 (.ref q336)).set 48 (.ref q345)).set 49 (.ref q354)))) :: (ws ++ [(q291, .inl ((nGof B).2.1.1, 300, .inl (fun _ => Int32.ofInt 0)))] ++ [(q300, .inl ((nGof B).2.1.1, 300, .inl (fun _ => Int32.ofInt 0)))] ++ [(q309, .inl ((nGof B).2.1.1, 300, .inl (fun _ => Int32.ofInt 0)))] ++ [(q318, .inl ((nGof B).2.1.1, 960, .inl (fun _ => Int32.ofInt 0)))] ++ [(q327, .inl ((nGof B).2.1.1, 960, .inl (fun _ => Int32.ofInt 0)))] ++ [(q336, .inl ((nGof B).2.1.1, 300, .inl (fun _ => Int32.ofInt 0)))] ++ [(q345, .inl ((nGof B).2.1.1, 300, .inl (fun _ => Int32.ofInt 0)))] ++ [(q354, .inl ((nGof B).2.1.2.1, 300, .inl (fun _ => Int32.ofInt 0)))]))) : nW (cX12_init, yX12_init.cls, 2, { frames := 1, cells := 40, slots := 140561, locals := 12 }, none) B 32 136841 287 (lv_args 0 [.ref a, .int w0]) [] ((a, .inr (12, fs)) :: ws) := by
  refine n_aload C 0 dX12_init_287 rfl ?_
  refine n_sipush (v := 300) C dX12_init_288 rfl ?_
  refine n_mkI (j := 41) (N := 300) (k' := 33) (n' := 137141) C hN ncl12 dX12_init_291 w_arr_int ⟨by decide, by decide, by decide⟩ ⟨rfl, rfl, by decide, by decide⟩ dX12_init_293 (ktb6 16 (by decide +kernel) (by decide +kernel)) ⟨by decide, rfl, rfl⟩ rfl hl (fun q291 hl => ?_)
  refine n_aload C 0 dX12_init_296 rfl ?_
  refine n_sipush (v := 300) C dX12_init_297 rfl ?_
  refine n_mkI (j := 42) (N := 300) (k' := 34) (n' := 137441) C hN ncl12 dX12_init_300 w_arr_int ⟨by decide, by decide, by decide⟩ ⟨rfl, rfl, by decide, by decide⟩ dX12_init_302 (ktb6 17 (by decide +kernel) (by decide +kernel)) ⟨by decide, rfl, rfl⟩ rfl hl (fun q300 hl => ?_)
  refine n_aload C 0 dX12_init_305 rfl ?_
  refine n_sipush (v := 300) C dX12_init_306 rfl ?_
  refine n_mkI (j := 43) (N := 300) (k' := 35) (n' := 137741) C hN ncl12 dX12_init_309 w_arr_int ⟨by decide, by decide, by decide⟩ ⟨rfl, rfl, by decide, by decide⟩ dX12_init_311 (ktb6 18 (by decide +kernel) (by decide +kernel)) ⟨by decide, rfl, rfl⟩ rfl hl (fun q309 hl => ?_)
  refine n_aload C 0 dX12_init_314 rfl ?_
  refine n_sipush (v := 960) C dX12_init_315 rfl ?_
  refine n_mkI (j := 45) (N := 960) (k' := 36) (n' := 138701) C hN ncl12 dX12_init_318 w_arr_int ⟨by decide, by decide, by decide⟩ ⟨rfl, rfl, by decide, by decide⟩ dX12_init_320 (ktb6 20 (by decide +kernel) (by decide +kernel)) ⟨by decide, rfl, rfl⟩ rfl hl (fun q318 hl => ?_)
  refine n_aload C 0 dX12_init_323 rfl ?_
  refine n_sipush (v := 960) C dX12_init_324 rfl ?_
  refine n_mkI (j := 46) (N := 960) (k' := 37) (n' := 139661) C hN ncl12 dX12_init_327 w_arr_int ⟨by decide, by decide, by decide⟩ ⟨rfl, rfl, by decide, by decide⟩ dX12_init_329 (ktb6 21 (by decide +kernel) (by decide +kernel)) ⟨by decide, rfl, rfl⟩ rfl hl (fun q327 hl => ?_)
  refine n_aload C 0 dX12_init_332 rfl ?_
  refine n_sipush (v := 300) C dX12_init_333 rfl ?_
  refine n_mkI (j := 47) (N := 300) (k' := 38) (n' := 139961) C hN ncl12 dX12_init_336 w_arr_int ⟨by decide, by decide, by decide⟩ ⟨rfl, rfl, by decide, by decide⟩ dX12_init_338 (ktb6 22 (by decide +kernel) (by decide +kernel)) ⟨by decide, rfl, rfl⟩ rfl hl (fun q336 hl => ?_)
  refine n_aload C 0 dX12_init_341 rfl ?_
  refine n_sipush (v := 300) C dX12_init_342 rfl ?_
  refine n_mkI (j := 48) (N := 300) (k' := 39) (n' := 140261) C hN ncl12 dX12_init_345 w_arr_int ⟨by decide, by decide, by decide⟩ ⟨rfl, rfl, by decide, by decide⟩ dX12_init_347 (ktb6 23 (by decide +kernel) (by decide +kernel)) ⟨by decide, rfl, rfl⟩ rfl hl (fun q345 hl => ?_)
  refine n_aload C 0 dX12_init_350 rfl ?_
  refine n_sipush (v := 300) C dX12_init_351 rfl ?_
  refine n_mkB (j := 49) (N := 300) (k' := 40) (n' := 140561) C hN ncl12 dX12_init_354 w_arr_boolean ⟨by decide, by decide, by decide⟩ ⟨rfl, rfl, by decide, by decide⟩ dX12_init_356 (ktb6 24 (by decide +kernel) (by decide +kernel)) ⟨by decide, rfl, rfl⟩ rfl hl (fun q354 hl => ?_)
  exact kk q291 q300 q309 q318 q327 q336 q345 q354
