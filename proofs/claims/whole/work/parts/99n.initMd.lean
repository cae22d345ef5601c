/-! CONSTRUCTORS: the last ones (printed by gen3.py) -/
section NM
variable {M : kM} {B : nB} {k n k' n' pc : Nat} {L : List (Nat × Value)} {st : List Value} {ws : va_W}
theorem n_str {p5 p6 : Nat} {o1 o2 : Int} {f : Int32} (C : nC M B) (d0 : decode M.1 pc = .ok (.if_icmp .ne o1, 3)) (h0 : (pc : Int) + o1 = (p5 : Int)) (d3 : decode M.1 (pc + 3) = .ok (.iconst 1, 1)) (d4 : decode M.1 (pc + 3 + 1) = .ok (.goto o2, 3)) (h4 : ((pc + 3 + 1 : Nat) : Int) + o2 = (p6 : Int)) (d5 : decode M.1 p5 = .ok (.iconst 0, 1)) (h5 : p5 + 1 = p6)
    (kk : nW M B k n p6 L (.int (nStr (.int f)) :: st) ws) : nW M B k n pc L (.int 1 :: .int f :: st) ws := by
  refine n_icmp_ne C d0 h0 (fun h => ?_) (fun h => ?_)
  · have e0 : nStr (.int f) = 0 := if_neg h
    rw [e0, ← h5] at kk
    exact n_iconst C d5 rfl kk
  · have e0 : nStr (.int f) = 1 := if_pos h
    rw [e0] at kk
    exact n_iconst C d3 rfl (n_goto C d4 h4 kk)
theorem n_mkI {ci N' N idx j a : Nat} {x : Int32} {T : u_T} {ty : Nat → FieldType} {fs : List Value} (C : nC M B) (hN : nN B) (hc : nCl ci M.2.1 T N' ty) (hd : decode M.1 pc = .ok (.newarray .int, 2)) (hw : Cond.arrayClass .int ∈ kTBL) (hz : ¬ x < 0 ∧ x.toNatClampNeg = N ∧ N * componentBytes .int ≤ 536870912) (hk : k + 1 = k' ∧ n + N = n' ∧ k' ≤ M.2.2.2.1.cells ∧ n' ≤ M.2.2.2.1.slots)
    (hd2 : decode M.1 (pc + 2) = .ok (.putfield idx, 3)) (hw2 : Cond.fieldLink M.2.1 idx (T j).1 (T j).2.1 (T j).2.2.1 ∈ kTBL) (hj : j < N' ∧ (T j).2.2.2 = true ∧ (T j).1 = M.2.1) (hty : ty j = .array .int) (hl : fs.length = N')
    (kk : ∀ q : Nat, (fs.set j (.ref q)).length = N' → nW M B k' n' (pc + 2 + 3) L st ((a, .inr (ci, fs.set j (.ref q))) :: (ws ++ [(q, .inl ((nGof B).2.1.1, N, .inl (fun _ => Int32.ofInt 0)))]))) : nW M B k n pc L (.int x :: .ref a :: st) ((a, .inr (ci, fs)) :: ws) := by
  refine n_newi C hd hw hz hk (fun q => ?_)
  exact n_putF (ws := ws ++ [(q, .inl ((nGof B).2.1.1, N, .inl (fun _ => Int32.ofInt 0)))]) C hN hc hd2 hw2 ⟨hj.1, by rw [hl]; exact hj.1, hj.2.1, hj.2.2⟩ (by rw [hty]; rfl) (by rw [hty]; rfl) (kk q (by rw [List.length_set]; exact hl))
theorem n_mkB {ci N' N idx j a : Nat} {x : Int32} {T : u_T} {ty : Nat → FieldType} {fs : List Value} (C : nC M B) (hN : nN B) (hc : nCl ci M.2.1 T N' ty) (hd : decode M.1 pc = .ok (.newarray .boolean, 2)) (hw : Cond.arrayClass .boolean ∈ kTBL) (hz : ¬ x < 0 ∧ x.toNatClampNeg = N ∧ N * componentBytes .boolean ≤ 536870912) (hk : k + 1 = k' ∧ n + N = n' ∧ k' ≤ M.2.2.2.1.cells ∧ n' ≤ M.2.2.2.1.slots)
    (hd2 : decode M.1 (pc + 2) = .ok (.putfield idx, 3)) (hw2 : Cond.fieldLink M.2.1 idx (T j).1 (T j).2.1 (T j).2.2.1 ∈ kTBL) (hj : j < N' ∧ (T j).2.2.2 = true ∧ (T j).1 = M.2.1) (hty : ty j = .array .boolean) (hl : fs.length = N')
    (kk : ∀ q : Nat, (fs.set j (.ref q)).length = N' → nW M B k' n' (pc + 2 + 3) L st ((a, .inr (ci, fs.set j (.ref q))) :: (ws ++ [(q, .inl ((nGof B).2.1.2.1, N, .inl (fun _ => Int32.ofInt 0)))]))) : nW M B k n pc L (.int x :: .ref a :: st) ((a, .inr (ci, fs)) :: ws) := by
  refine n_newb C hd hw hz hk (fun q => ?_)
  exact n_putF (ws := ws ++ [(q, .inl ((nGof B).2.1.2.1, N, .inl (fun _ => Int32.ofInt 0)))]) C hN hc hd2 hw2 ⟨hj.1, by rw [hl]; exact hj.1, hj.2.1, hj.2.2⟩ (by rw [hty]; rfl) (by rw [hty]; rfl) (kk q (by rw [List.length_set]; exact hl))
end NM
noncomputable def nF_12 (g : kG) (av : List Value) (a : Nat) (qs : List Nat) : va_W := [(a, .inr (12, [.int (nStr ((av.getD 0 .null))), .int 0, .ref (qs.getD 0 0), .int 0, .ref (qs.getD 1 0), .ref (qs.getD 2 0), .ref (qs.getD 3 0), .ref (qs.getD 4 0), .ref (qs.getD 5 0), .ref (qs.getD 6 0), .int 0, .ref (qs.getD 7 0), .ref (qs.getD 8 0), .ref (qs.getD 9 0), .int 0, .ref (qs.getD 10 0), .int 0, .int 0, .ref (qs.getD 11 0), .ref (qs.getD 12 0), .ref (qs.getD 13 0), .ref (qs.getD 14 0), .int 0, .ref (qs.getD 15 0), .ref (qs.getD 16 0), .ref (qs.getD 17 0), .ref (qs.getD 18 0), .int 0, .ref (qs.getD 19 0), .ref (qs.getD 20 0), .ref (qs.getD 21 0), .ref (qs.getD 22 0), .ref (qs.getD 23 0), .ref (qs.getD 24 0), .ref (qs.getD 25 0), .ref (qs.getD 26 0), .ref (qs.getD 27 0), .ref (qs.getD 28 0), .ref (qs.getD 29 0), .ref (qs.getD 30 0), .ref (qs.getD 31 0), .ref (qs.getD 32 0), .ref (qs.getD 33 0), .ref (qs.getD 34 0), .int 0, .ref (qs.getD 35 0), .ref (qs.getD 36 0), .ref (qs.getD 37 0), .ref (qs.getD 38 0), .ref (qs.getD 39 0)])), ((qs.getD 0 0), .inl ((g).2.1.1, 300, .inl (fun _ => Int32.ofInt 0))), ((qs.getD 1 0), .inl ((g).2.1.1, 5000, .inl (fun _ => Int32.ofInt 0))), ((qs.getD 2 0), .inl ((g).2.1.1, 5000, .inl (fun _ => Int32.ofInt 0))), ((qs.getD 3 0), .inl ((g).2.1.1, 5000, .inl (fun _ => Int32.ofInt 0))), ((qs.getD 4 0), .inl ((g).2.1.2.1, 5000, .inl (fun _ => Int32.ofInt 0))), ((qs.getD 5 0), .inl ((g).2.1.2.1, 5000, .inl (fun _ => Int32.ofInt 0))), ((qs.getD 6 0), .inl ((g).2.1.2.1, 5000, .inl (fun _ => Int32.ofInt 0))), ((qs.getD 7 0), .inl ((g).2.1.1, 901, .inl (fun _ => Int32.ofInt 0))), ((qs.getD 8 0), .inl ((g).2.1.1, 300, .inl (fun _ => Int32.ofInt 0))), ((qs.getD 9 0), .inl ((g).2.1.1, 300, .inl (fun _ => Int32.ofInt 0))), ((qs.getD 10 0), .inl ((g).2.1.1, 300, .inl (fun _ => Int32.ofInt 0))), ((qs.getD 11 0), .inl ((g).2.1.2.1, 60, .inl (fun _ => Int32.ofInt 0))), ((qs.getD 12 0), .inl ((g).2.1.1, 60, .inl (fun _ => Int32.ofInt 0))), ((qs.getD 13 0), .inl ((g).2.1.1, 60, .inl (fun _ => Int32.ofInt 0))), ((qs.getD 14 0), .inl ((g).2.1.1, 60, .inl (fun _ => Int32.ofInt 0))), ((qs.getD 15 0), .inl ((g).2.1.2.1, 300, .inl (fun _ => Int32.ofInt 0))), ((qs.getD 16 0), .inl ((g).2.1.1, 300, .inl (fun _ => Int32.ofInt 0))), ((qs.getD 17 0), .inl ((g).2.1.1, 300, .inl (fun _ => Int32.ofInt 0))), ((qs.getD 18 0), .inl ((g).2.1.1, 300, .inl (fun _ => Int32.ofInt 0))), ((qs.getD 19 0), .inl ((g).2.1.1, 300, .inl (fun _ => Int32.ofInt 0))), ((qs.getD 20 0), .inl ((g).2.1.1, 10000, .inl (fun _ => Int32.ofInt 0))), ((qs.getD 21 0), .inl ((g).2.1.2.1, 300, .inl (fun _ => Int32.ofInt 0))), ((qs.getD 22 0), .inl ((g).2.1.2.1, 300, .inl (fun _ => Int32.ofInt 0))), ((qs.getD 23 0), .inl ((g).2.1.1, 300, .inl (fun _ => Int32.ofInt 0))), ((qs.getD 24 0), .inl ((g).2.1.2.1, 300, .inl (fun _ => Int32.ofInt 0))), ((qs.getD 25 0), .inl ((g).2.1.2.1, 300, .inl (fun _ => Int32.ofInt 0))), ((qs.getD 26 0), .inl ((g).2.1.2.1, 300, .inl (fun _ => Int32.ofInt 0))), ((qs.getD 27 0), .inl ((g).2.1.2.1, 90000, .inl (fun _ => Int32.ofInt 0))), ((qs.getD 28 0), .inl ((g).2.1.1, 300, .inl (fun _ => Int32.ofInt 0))), ((qs.getD 29 0), .inl ((g).2.1.2.1, 300, .inl (fun _ => Int32.ofInt 0))), ((qs.getD 30 0), .inl ((g).2.1.2.1, 300, .inl (fun _ => Int32.ofInt 0))), ((qs.getD 31 0), .inl ((g).2.1.2.1, 300, .inl (fun _ => Int32.ofInt 0))), ((qs.getD 32 0), .inl ((g).2.1.1, 300, .inl (fun _ => Int32.ofInt 0))), ((qs.getD 33 0), .inl ((g).2.1.1, 300, .inl (fun _ => Int32.ofInt 0))), ((qs.getD 34 0), .inl ((g).2.1.1, 300, .inl (fun _ => Int32.ofInt 0))), ((qs.getD 35 0), .inl ((g).2.1.1, 960, .inl (fun _ => Int32.ofInt 0))), ((qs.getD 36 0), .inl ((g).2.1.1, 960, .inl (fun _ => Int32.ofInt 0))), ((qs.getD 37 0), .inl ((g).2.1.1, 300, .inl (fun _ => Int32.ofInt 0))), ((qs.getD 38 0), .inl ((g).2.1.1, 300, .inl (fun _ => Int32.ofInt 0))), ((qs.getD 39 0), .inl ((g).2.1.2.1, 300, .inl (fun _ => Int32.ofInt 0)))]
set_option maxRecDepth 100000 in
set_option maxHeartbeats 4000000 in
theorem nc_12 : nCon yX12_init cX12_init 2 { frames := 1, cells := 40, slots := 140561, locals := 12 } 12 (nDef 50 tyX12) 40 140561 (fun av => ∃ w0, av = [.int w0]) nF_12 := nCon_of (by decide +kernel) rfl (by
  rintro a av ⟨w0, rfl⟩
  exact Nat.le_of_ble_eq_true rfl) (by
  rintro B a av ⟨w0, rfl⟩ C hN hE
  have hl : (nDef 50 tyX12).length = 50 := rfl
  refine n_aload C 0 dX12_init_0 rfl ?_
  refine n_objInit C dX12_init_1 ⟨(ktb5 213 (by decide +kernel) (by decide +kernel)), w_obj⟩ ⟨by decide, by decide⟩ ?_
  refine n_aload C 0 dX12_init_4 rfl ?_
  refine n_sipush (v := 300) C dX12_init_5 rfl ?_
  refine n_mkI (j := 2) (N := 300) (k' := 1) (n' := 300) C hN ncl12 dX12_init_8 w_arr_int ⟨by decide, by decide, by decide⟩ ⟨rfl, rfl, by decide, by decide⟩ dX12_init_10 (ktb5 217 (by decide +kernel) (by decide +kernel)) ⟨by decide, rfl, rfl⟩ rfl hl (fun q8 hl => ?_)
  refine n_aload C 0 dX12_init_13 rfl ?_
  refine n_sipush (v := 5000) C dX12_init_14 rfl ?_
  refine n_mkI (j := 4) (N := 5000) (k' := 2) (n' := 5300) C hN ncl12 dX12_init_17 w_arr_int ⟨by decide, by decide, by decide⟩ ⟨rfl, rfl, by decide, by decide⟩ dX12_init_19 (ktb5 219 (by decide +kernel) (by decide +kernel)) ⟨by decide, rfl, rfl⟩ rfl hl (fun q17 hl => ?_)
  refine n_aload C 0 dX12_init_22 rfl ?_
  refine n_sipush (v := 5000) C dX12_init_23 rfl ?_
  refine n_mkI (j := 5) (N := 5000) (k' := 3) (n' := 10300) C hN ncl12 dX12_init_26 w_arr_int ⟨by decide, by decide, by decide⟩ ⟨rfl, rfl, by decide, by decide⟩ dX12_init_28 (ktb5 220 (by decide +kernel) (by decide +kernel)) ⟨by decide, rfl, rfl⟩ rfl hl (fun q26 hl => ?_)
  refine n_aload C 0 dX12_init_31 rfl ?_
  refine n_sipush (v := 5000) C dX12_init_32 rfl ?_
  refine n_mkI (j := 6) (N := 5000) (k' := 4) (n' := 15300) C hN ncl12 dX12_init_35 w_arr_int ⟨by decide, by decide, by decide⟩ ⟨rfl, rfl, by decide, by decide⟩ dX12_init_37 (ktb5 221 (by decide +kernel) (by decide +kernel)) ⟨by decide, rfl, rfl⟩ rfl hl (fun q35 hl => ?_)
  refine n_aload C 0 dX12_init_40 rfl ?_
  refine n_sipush (v := 5000) C dX12_init_41 rfl ?_
  refine n_mkB (j := 7) (N := 5000) (k' := 5) (n' := 20300) C hN ncl12 dX12_init_44 w_arr_boolean ⟨by decide, by decide, by decide⟩ ⟨rfl, rfl, by decide, by decide⟩ dX12_init_46 (ktb5 222 (by decide +kernel) (by decide +kernel)) ⟨by decide, rfl, rfl⟩ rfl hl (fun q44 hl => ?_)
  refine n_aload C 0 dX12_init_49 rfl ?_
  refine n_sipush (v := 5000) C dX12_init_50 rfl ?_
  refine n_mkB (j := 8) (N := 5000) (k' := 6) (n' := 25300) C hN ncl12 dX12_init_53 w_arr_boolean ⟨by decide, by decide, by decide⟩ ⟨rfl, rfl, by decide, by decide⟩ dX12_init_55 (ktb5 223 (by decide +kernel) (by decide +kernel)) ⟨by decide, rfl, rfl⟩ rfl hl (fun q53 hl => ?_)
  refine n_aload C 0 dX12_init_58 rfl ?_
  refine n_sipush (v := 5000) C dX12_init_59 rfl ?_
  refine n_mkB (j := 9) (N := 5000) (k' := 7) (n' := 30300) C hN ncl12 dX12_init_62 w_arr_boolean ⟨by decide, by decide, by decide⟩ ⟨rfl, rfl, by decide, by decide⟩ dX12_init_64 (ktb5 224 (by decide +kernel) (by decide +kernel)) ⟨by decide, rfl, rfl⟩ rfl hl (fun q62 hl => ?_)
  refine n_aload C 0 dX12_init_67 rfl ?_
  refine n_sipush (v := 901) C dX12_init_68 rfl ?_
  refine n_mkI (j := 11) (N := 901) (k' := 8) (n' := 31201) C hN ncl12 dX12_init_71 w_arr_int ⟨by decide, by decide, by decide⟩ ⟨rfl, rfl, by decide, by decide⟩ dX12_init_73 (ktb5 226 (by decide +kernel) (by decide +kernel)) ⟨by decide, rfl, rfl⟩ rfl hl (fun q71 hl => ?_)
  refine n_aload C 0 dX12_init_76 rfl ?_
  refine n_sipush (v := 300) C dX12_init_77 rfl ?_
  refine n_mkI (j := 12) (N := 300) (k' := 9) (n' := 31501) C hN ncl12 dX12_init_80 w_arr_int ⟨by decide, by decide, by decide⟩ ⟨rfl, rfl, by decide, by decide⟩ dX12_init_82 (ktb5 227 (by decide +kernel) (by decide +kernel)) ⟨by decide, rfl, rfl⟩ rfl hl (fun q80 hl => ?_)
  refine n_aload C 0 dX12_init_85 rfl ?_
  refine n_sipush (v := 300) C dX12_init_86 rfl ?_
  refine n_mkI (j := 13) (N := 300) (k' := 10) (n' := 31801) C hN ncl12 dX12_init_89 w_arr_int ⟨by decide, by decide, by decide⟩ ⟨rfl, rfl, by decide, by decide⟩ dX12_init_91 (ktb5 228 (by decide +kernel) (by decide +kernel)) ⟨by decide, rfl, rfl⟩ rfl hl (fun q89 hl => ?_)
  refine n_aload C 0 dX12_init_94 rfl ?_
  refine n_sipush (v := 300) C dX12_init_95 rfl ?_
  refine n_mkI (j := 15) (N := 300) (k' := 11) (n' := 32101) C hN ncl12 dX12_init_98 w_arr_int ⟨by decide, by decide, by decide⟩ ⟨rfl, rfl, by decide, by decide⟩ dX12_init_100 (ktb5 230 (by decide +kernel) (by decide +kernel)) ⟨by decide, rfl, rfl⟩ rfl hl (fun q98 hl => ?_)
  refine n_aload C 0 dX12_init_103 rfl ?_
  refine n_bipush (v := 60) C dX12_init_104 rfl ?_
  refine n_mkB (j := 18) (N := 60) (k' := 12) (n' := 32161) C hN ncl12 dX12_init_106 w_arr_boolean ⟨by decide, by decide, by decide⟩ ⟨rfl, rfl, by decide, by decide⟩ dX12_init_108 (ktb5 233 (by decide +kernel) (by decide +kernel)) ⟨by decide, rfl, rfl⟩ rfl hl (fun q106 hl => ?_)
  refine n_aload C 0 dX12_init_111 rfl ?_
  refine n_bipush (v := 60) C dX12_init_112 rfl ?_
  refine n_mkI (j := 19) (N := 60) (k' := 13) (n' := 32221) C hN ncl12 dX12_init_114 w_arr_int ⟨by decide, by decide, by decide⟩ ⟨rfl, rfl, by decide, by decide⟩ dX12_init_116 (ktb5 234 (by decide +kernel) (by decide +kernel)) ⟨by decide, rfl, rfl⟩ rfl hl (fun q114 hl => ?_)
  refine n_aload C 0 dX12_init_119 rfl ?_
  refine n_bipush (v := 60) C dX12_init_120 rfl ?_
  refine n_mkI (j := 20) (N := 60) (k' := 14) (n' := 32281) C hN ncl12 dX12_init_122 w_arr_int ⟨by decide, by decide, by decide⟩ ⟨rfl, rfl, by decide, by decide⟩ dX12_init_124 (ktb5 235 (by decide +kernel) (by decide +kernel)) ⟨by decide, rfl, rfl⟩ rfl hl (fun q122 hl => ?_)
  refine n_aload C 0 dX12_init_127 rfl ?_
  refine n_bipush (v := 60) C dX12_init_128 rfl ?_
  refine n_mkI (j := 21) (N := 60) (k' := 15) (n' := 32341) C hN ncl12 dX12_init_130 w_arr_int ⟨by decide, by decide, by decide⟩ ⟨rfl, rfl, by decide, by decide⟩ dX12_init_132 (ktb5 236 (by decide +kernel) (by decide +kernel)) ⟨by decide, rfl, rfl⟩ rfl hl (fun q130 hl => ?_)
  refine n_aload C 0 dX12_init_135 rfl ?_
  refine n_sipush (v := 300) C dX12_init_136 rfl ?_
  refine n_mkB (j := 23) (N := 300) (k' := 16) (n' := 32641) C hN ncl12 dX12_init_139 w_arr_boolean ⟨by decide, by decide, by decide⟩ ⟨rfl, rfl, by decide, by decide⟩ dX12_init_141 (ktb5 238 (by decide +kernel) (by decide +kernel)) ⟨by decide, rfl, rfl⟩ rfl hl (fun q139 hl => ?_)
  refine n_aload C 0 dX12_init_144 rfl ?_
  refine n_sipush (v := 300) C dX12_init_145 rfl ?_
  refine n_mkI (j := 24) (N := 300) (k' := 17) (n' := 32941) C hN ncl12 dX12_init_148 w_arr_int ⟨by decide, by decide, by decide⟩ ⟨rfl, rfl, by decide, by decide⟩ dX12_init_150 (ktb5 239 (by decide +kernel) (by decide +kernel)) ⟨by decide, rfl, rfl⟩ rfl hl (fun q148 hl => ?_)
  refine n_aload C 0 dX12_init_153 rfl ?_
  refine n_sipush (v := 300) C dX12_init_154 rfl ?_
  refine n_mkI (j := 25) (N := 300) (k' := 18) (n' := 33241) C hN ncl12 dX12_init_157 w_arr_int ⟨by decide, by decide, by decide⟩ ⟨rfl, rfl, by decide, by decide⟩ dX12_init_159 (ktb6 0 (by decide +kernel) (by decide +kernel)) ⟨by decide, rfl, rfl⟩ rfl hl (fun q157 hl => ?_)
  refine n_aload C 0 dX12_init_162 rfl ?_
  refine n_sipush (v := 300) C dX12_init_163 rfl ?_
  refine n_mkI (j := 26) (N := 300) (k' := 19) (n' := 33541) C hN ncl12 dX12_init_166 w_arr_int ⟨by decide, by decide, by decide⟩ ⟨rfl, rfl, by decide, by decide⟩ dX12_init_168 (ktb6 1 (by decide +kernel) (by decide +kernel)) ⟨by decide, rfl, rfl⟩ rfl hl (fun q166 hl => ?_)
  refine n_aload C 0 dX12_init_171 rfl ?_
  refine n_sipush (v := 300) C dX12_init_172 rfl ?_
  refine n_mkI (j := 28) (N := 300) (k' := 20) (n' := 33841) C hN ncl12 dX12_init_175 w_arr_int ⟨by decide, by decide, by decide⟩ ⟨rfl, rfl, by decide, by decide⟩ dX12_init_177 (ktb6 3 (by decide +kernel) (by decide +kernel)) ⟨by decide, rfl, rfl⟩ rfl hl (fun q175 hl => ?_)
  refine n_aload C 0 dX12_init_180 rfl ?_
  refine n_sipush (v := 10000) C dX12_init_181 rfl ?_
  refine n_mkI (j := 29) (N := 10000) (k' := 21) (n' := 43841) C hN ncl12 dX12_init_184 w_arr_int ⟨by decide, by decide, by decide⟩ ⟨rfl, rfl, by decide, by decide⟩ dX12_init_186 (ktb6 4 (by decide +kernel) (by decide +kernel)) ⟨by decide, rfl, rfl⟩ rfl hl (fun q184 hl => ?_)
  refine n_aload C 0 dX12_init_189 rfl ?_
  refine n_sipush (v := 300) C dX12_init_190 rfl ?_
  refine n_mkB (j := 30) (N := 300) (k' := 22) (n' := 44141) C hN ncl12 dX12_init_193 w_arr_boolean ⟨by decide, by decide, by decide⟩ ⟨rfl, rfl, by decide, by decide⟩ dX12_init_195 (ktb6 5 (by decide +kernel) (by decide +kernel)) ⟨by decide, rfl, rfl⟩ rfl hl (fun q193 hl => ?_)
  refine n_aload C 0 dX12_init_198 rfl ?_
  refine n_sipush (v := 300) C dX12_init_199 rfl ?_
  refine n_mkB (j := 31) (N := 300) (k' := 23) (n' := 44441) C hN ncl12 dX12_init_202 w_arr_boolean ⟨by decide, by decide, by decide⟩ ⟨rfl, rfl, by decide, by decide⟩ dX12_init_204 (ktb6 6 (by decide +kernel) (by decide +kernel)) ⟨by decide, rfl, rfl⟩ rfl hl (fun q202 hl => ?_)
  refine n_aload C 0 dX12_init_207 rfl ?_
  refine n_sipush (v := 300) C dX12_init_208 rfl ?_
  refine n_mkI (j := 32) (N := 300) (k' := 24) (n' := 44741) C hN ncl12 dX12_init_211 w_arr_int ⟨by decide, by decide, by decide⟩ ⟨rfl, rfl, by decide, by decide⟩ dX12_init_213 (ktb6 7 (by decide +kernel) (by decide +kernel)) ⟨by decide, rfl, rfl⟩ rfl hl (fun q211 hl => ?_)
  refine n_aload C 0 dX12_init_216 rfl ?_
  refine n_sipush (v := 300) C dX12_init_217 rfl ?_
  refine n_mkB (j := 33) (N := 300) (k' := 25) (n' := 45041) C hN ncl12 dX12_init_220 w_arr_boolean ⟨by decide, by decide, by decide⟩ ⟨rfl, rfl, by decide, by decide⟩ dX12_init_222 (ktb6 8 (by decide +kernel) (by decide +kernel)) ⟨by decide, rfl, rfl⟩ rfl hl (fun q220 hl => ?_)
  refine n_aload C 0 dX12_init_225 rfl ?_
  refine n_sipush (v := 300) C dX12_init_226 rfl ?_
  refine n_mkB (j := 34) (N := 300) (k' := 26) (n' := 45341) C hN ncl12 dX12_init_229 w_arr_boolean ⟨by decide, by decide, by decide⟩ ⟨rfl, rfl, by decide, by decide⟩ dX12_init_231 (ktb6 9 (by decide +kernel) (by decide +kernel)) ⟨by decide, rfl, rfl⟩ rfl hl (fun q229 hl => ?_)
  refine n_aload C 0 dX12_init_234 rfl ?_
  refine n_sipush (v := 300) C dX12_init_235 rfl ?_
  refine n_mkB (j := 35) (N := 300) (k' := 27) (n' := 45641) C hN ncl12 dX12_init_238 w_arr_boolean ⟨by decide, by decide, by decide⟩ ⟨rfl, rfl, by decide, by decide⟩ dX12_init_240 (ktb6 10 (by decide +kernel) (by decide +kernel)) ⟨by decide, rfl, rfl⟩ rfl hl (fun q238 hl => ?_)
  refine n_aload C 0 dX12_init_243 rfl ?_
  refine n_ldc (v := 90000) C dX12_init_244 (ktb5 214 (by decide +kernel) (by decide +kernel)) ?_
  refine n_mkB (j := 36) (N := 90000) (k' := 28) (n' := 135641) C hN ncl12 dX12_init_246 w_arr_boolean ⟨by decide, by decide, by decide⟩ ⟨rfl, rfl, by decide, by decide⟩ dX12_init_248 (ktb6 11 (by decide +kernel) (by decide +kernel)) ⟨by decide, rfl, rfl⟩ rfl hl (fun q246 hl => ?_)
  refine n_aload C 0 dX12_init_251 rfl ?_
  refine n_sipush (v := 300) C dX12_init_252 rfl ?_
  refine n_mkI (j := 37) (N := 300) (k' := 29) (n' := 135941) C hN ncl12 dX12_init_255 w_arr_int ⟨by decide, by decide, by decide⟩ ⟨rfl, rfl, by decide, by decide⟩ dX12_init_257 (ktb6 12 (by decide +kernel) (by decide +kernel)) ⟨by decide, rfl, rfl⟩ rfl hl (fun q255 hl => ?_)
  refine n_aload C 0 dX12_init_260 rfl ?_
  refine n_sipush (v := 300) C dX12_init_261 rfl ?_
  refine n_mkB (j := 38) (N := 300) (k' := 30) (n' := 136241) C hN ncl12 dX12_init_264 w_arr_boolean ⟨by decide, by decide, by decide⟩ ⟨rfl, rfl, by decide, by decide⟩ dX12_init_266 (ktb6 13 (by decide +kernel) (by decide +kernel)) ⟨by decide, rfl, rfl⟩ rfl hl (fun q264 hl => ?_)
  refine n_aload C 0 dX12_init_269 rfl ?_
  refine n_sipush (v := 300) C dX12_init_270 rfl ?_
  refine n_mkB (j := 39) (N := 300) (k' := 31) (n' := 136541) C hN ncl12 dX12_init_273 w_arr_boolean ⟨by decide, by decide, by decide⟩ ⟨rfl, rfl, by decide, by decide⟩ dX12_init_275 (ktb6 14 (by decide +kernel) (by decide +kernel)) ⟨by decide, rfl, rfl⟩ rfl hl (fun q273 hl => ?_)
  refine n_aload C 0 dX12_init_278 rfl ?_
  refine n_sipush (v := 300) C dX12_init_279 rfl ?_
  refine n_mkB (j := 40) (N := 300) (k' := 32) (n' := 136841) C hN ncl12 dX12_init_282 w_arr_boolean ⟨by decide, by decide, by decide⟩ ⟨rfl, rfl, by decide, by decide⟩ dX12_init_284 (ktb6 15 (by decide +kernel) (by decide +kernel)) ⟨by decide, rfl, rfl⟩ rfl hl (fun q282 hl => ?_)
  refine n_aload C 0 dX12_init_287 rfl ?_
  refine n_sipush (v := 300) C dX12_init_288 rfl ?_
  refine n_mkI (j := 41) (N := 300) (k' := 33) (n' := 137141) C hN ncl12 dX12_init_291 w_arr_int ⟨by decide, by decide, by decide⟩ ⟨rfl, rfl, by decide, by decide⟩ dX12_init_293 (ktb6 16 (by decide +kernel) (by decide +kernel)) ⟨by decide, rfl, rfl⟩ rfl hl (fun q291 hl => ?_)
  refine n_aload C 0 dX12_init_296 rfl ?_
  refine n_sipush (v := 300) C dX12_init_297 rfl ?_
  refine n_mkI (j := 42) (N := 300) (k' := 34) (n' := 137441) C hN ncl12 dX12_init_300 w_arr_int ⟨by decide, by decide, by decide⟩ ⟨rfl, rfl, by decide, by decide⟩ dX12_init_302 (ktb6 17 (by decide +kernel) (by decide +kernel)) ⟨by decide, rfl, rfl⟩ rfl hl (fun q300 hl => ?_)
  refine n_aload C 0 dX12_init_305 rfl ?_
  refine n_sipush (v := 300) C dX12_init_306 rfl ?_
  refine n_mkI (j := 43) (N := 300) (k' := 35) (n' := 137741) C hN ncl12 dX12_init_309 w_arr_int ⟨by decide, by decide, by decide⟩ ⟨rfl, rfl, by decide, by decide⟩ dX12_init_311 (ktb6 18 (by decide +kernel) (by decide +kernel)) ⟨by decide, rfl, rfl⟩ rfl hl (fun q309 hl => ?_)
  refine n_aload C 0 dX12_init_314 rfl ?_
  refine n_sipush (v := 960) C dX12_init_315 rfl ?_
  refine n_mkI (j := 45) (N := 960) (k' := 36) (n' := 138701) C hN ncl12 dX12_init_318 w_arr_int ⟨by decide, by decide, by decide⟩ ⟨rfl, rfl, by decide, by decide⟩ dX12_init_320 (ktb6 20 (by decide +kernel) (by decide +kernel)) ⟨by decide, rfl, rfl⟩ rfl hl (fun q318 hl => ?_)
  refine n_aload C 0 dX12_init_323 rfl ?_
  refine n_sipush (v := 960) C dX12_init_324 rfl ?_
  refine n_mkI (j := 46) (N := 960) (k' := 37) (n' := 139661) C hN ncl12 dX12_init_327 w_arr_int ⟨by decide, by decide, by decide⟩ ⟨rfl, rfl, by decide, by decide⟩ dX12_init_329 (ktb6 21 (by decide +kernel) (by decide +kernel)) ⟨by decide, rfl, rfl⟩ rfl hl (fun q327 hl => ?_)
  refine n_aload C 0 dX12_init_332 rfl ?_
  refine n_sipush (v := 300) C dX12_init_333 rfl ?_
  refine n_mkI (j := 47) (N := 300) (k' := 38) (n' := 139961) C hN ncl12 dX12_init_336 w_arr_int ⟨by decide, by decide, by decide⟩ ⟨rfl, rfl, by decide, by decide⟩ dX12_init_338 (ktb6 22 (by decide +kernel) (by decide +kernel)) ⟨by decide, rfl, rfl⟩ rfl hl (fun q336 hl => ?_)
  refine n_aload C 0 dX12_init_341 rfl ?_
  refine n_sipush (v := 300) C dX12_init_342 rfl ?_
  refine n_mkI (j := 48) (N := 300) (k' := 39) (n' := 140261) C hN ncl12 dX12_init_345 w_arr_int ⟨by decide, by decide, by decide⟩ ⟨rfl, rfl, by decide, by decide⟩ dX12_init_347 (ktb6 23 (by decide +kernel) (by decide +kernel)) ⟨by decide, rfl, rfl⟩ rfl hl (fun q345 hl => ?_)
  refine n_aload C 0 dX12_init_350 rfl ?_
  refine n_sipush (v := 300) C dX12_init_351 rfl ?_
  refine n_mkB (j := 49) (N := 300) (k' := 40) (n' := 140561) C hN ncl12 dX12_init_354 w_arr_boolean ⟨by decide, by decide, by decide⟩ ⟨rfl, rfl, by decide, by decide⟩ dX12_init_356 (ktb6 24 (by decide +kernel) (by decide +kernel)) ⟨by decide, rfl, rfl⟩ rfl hl (fun q354 hl => ?_)
  refine n_aload C 0 dX12_init_359 rfl ?_
  refine n_iload C 1 dX12_init_360 rfl ?_
  refine n_iconst (v := 1) C dX12_init_361 rfl ?_
  refine n_str (p5 := 369) (p6 := 370) C dX12_init_362 (by decide) dX12_init_365 dX12_init_366 (by decide) dX12_init_369 rfl ?_
  refine n_putF (j := 0) C hN ncl12 dX12_init_370 (ktb5 215 (by decide +kernel) (by decide +kernel)) ⟨by decide, by rw [hl]; decide, rfl, rfl⟩ (by show narrow .boolean (.int (nStr (.int w0))) = _; unfold nStr; dsimp only; split <;> rfl) (by show fits .boolean (.int (nStr (.int w0))) = true; unfold nStr; dsimp only; split <;> rfl) ?_
  exact nW_eq (ws' := nF_12 (nGof B) [.int w0] a [q8, q17, q26, q35, q44, q53, q62, q71, q80, q89, q98, q106, q114, q122, q130, q139, q148, q157, q166, q175, q184, q193, q202, q211, q220, q229, q238, q246, q255, q264, q273, q282, q291, q300, q309, q318, q327, q336, q345, q354]) rfl (hE _ _ _ dX12_init_373))
