/-! CONSTRUCTORS 3: each of them (printed by gen3.py) -/
def nStr (v : Value) : Int32 := match v with
  | .int f => if f = 1 then 1 else 0
  | _ => 0
theorem w_obj : Cond.instanceMethod objectInit ∈ kTBL ∧ Cond.code objectInit ⟨#[0xb1]⟩ 1 none ∈ kTBL := ⟨(ktb1 29 (by decide +kernel) (by decide +kernel)), (ktb1 30 (by decide +kernel) (by decide +kernel))⟩
theorem ms_fill : kMs yJ7_fill_53178 cJ7_fill_53178 4 none 2 := ⟨(ktb2 136 (by decide +kernel) (by decide +kernel)), (ktb2 135 (by decide +kernel) (by decide +kernel)), (ktb1 13 (by decide +kernel) (by decide +kernel)), ⟨by decide +kernel, by decide +kernel⟩, by decide +kernel⟩
theorem w_arr_int : Cond.arrayClass .int ∈ kTBL := (ktb1 62 (by decide +kernel) (by decide +kernel))
theorem w_arr_boolean : Cond.arrayClass .boolean ∈ kTBL := (ktb1 135 (by decide +kernel) (by decide +kernel))
theorem w_arr_long : Cond.arrayClass .long ∈ kTBL := (ktb7 76 (by decide +kernel) (by decide +kernel))
theorem ncl1 : nCl 1 RX1 TX1 4 tyX1 := ⟨rfl, kin_1, tyX1_ok, nmX1⟩
theorem wi1 : Cond.instantiable RX1 4 ∈ kTBL ∧ Cond.initialized RX1 ∈ kTBL := ⟨(ktb1 38 (by decide +kernel) (by decide +kernel)), (ktb1 3 (by decide +kernel) (by decide +kernel))⟩
theorem ncl10 : nCl 10 RX10 TX10 10 tyX10 := ⟨rfl, kin_10, tyX10_ok, nmX10⟩
theorem wi10 : Cond.instantiable RX10 10 ∈ kTBL ∧ Cond.initialized RX10 ∈ kTBL := ⟨(ktb1 32 (by decide +kernel) (by decide +kernel)), (ktb1 2 (by decide +kernel) (by decide +kernel))⟩
theorem ncl8 : nCl 8 RX8 TX8 9 tyX8 := ⟨rfl, kin_8, tyX8_ok, nmX8⟩
theorem wi8 : Cond.instantiable RX8 9 ∈ kTBL ∧ Cond.initialized RX8 ∈ kTBL := ⟨(ktb1 137 (by decide +kernel) (by decide +kernel)), (ktb1 4 (by decide +kernel) (by decide +kernel))⟩
theorem ncl3 : nCl 3 RX3 TX3 3 tyX3 := ⟨rfl, kin_3, tyX3_ok, nmX3⟩
theorem wi3 : Cond.instantiable RX3 3 ∈ kTBL ∧ Cond.initialized RX3 ∈ kTBL := ⟨(ktb1 183 (by decide +kernel) (by decide +kernel)), (ktb1 5 (by decide +kernel) (by decide +kernel))⟩
theorem ncl9 : nCl 9 RX9 TX9 4 tyX9 := ⟨rfl, kin_9, tyX9_ok, nmX9⟩
theorem wi9 : Cond.instantiable RX9 4 ∈ kTBL ∧ Cond.initialized RX9 ∈ kTBL := ⟨(ktb1 199 (by decide +kernel) (by decide +kernel)), (ktb1 6 (by decide +kernel) (by decide +kernel))⟩
theorem ncl5 : nCl 5 RX5 TX5 10 tyX5 := ⟨rfl, kin_5, tyX5_ok, nmX5⟩
theorem wi5 : Cond.instantiable RX5 10 ∈ kTBL ∧ Cond.initialized RX5 ∈ kTBL := ⟨(ktb1 218 (by decide +kernel) (by decide +kernel)), (ktb1 7 (by decide +kernel) (by decide +kernel))⟩
theorem ncl7 : nCl 7 RX7 TX7 7 tyX7 := ⟨rfl, kin_7, tyX7_ok, nmX7⟩
theorem wi7 : Cond.instantiable RX7 7 ∈ kTBL ∧ Cond.initialized RX7 ∈ kTBL := ⟨(ktb2 16 (by decide +kernel) (by decide +kernel)), (ktb1 8 (by decide +kernel) (by decide +kernel))⟩
theorem ncl6 : nCl 6 RX6 TX6 9 tyX6 := ⟨rfl, kin_6, tyX6_ok, nmX6⟩
theorem wi6 : Cond.instantiable RX6 9 ∈ kTBL ∧ Cond.initialized RX6 ∈ kTBL := ⟨(ktb2 44 (by decide +kernel) (by decide +kernel)), (ktb1 9 (by decide +kernel) (by decide +kernel))⟩
theorem ncl0 : nCl 0 RX0 TX0 4 tyX0 := ⟨rfl, kin_0, tyX0_ok, nmX0⟩
theorem wi0 : Cond.instantiable RX0 4 ∈ kTBL ∧ Cond.initialized RX0 ∈ kTBL := ⟨(ktb2 78 (by decide +kernel) (by decide +kernel)), (ktb1 10 (by decide +kernel) (by decide +kernel))⟩
theorem ncl2 : nCl 2 RX2 TX2 7 tyX2 := ⟨rfl, kin_2, tyX2_ok, nmX2⟩
theorem wi2 : Cond.instantiable RX2 7 ∈ kTBL ∧ Cond.initialized RX2 ∈ kTBL := ⟨(ktb2 97 (by decide +kernel) (by decide +kernel)), (ktb1 11 (by decide +kernel) (by decide +kernel))⟩
theorem ncl4 : nCl 4 RX4 TX4 9 tyX4 := ⟨rfl, kin_4, tyX4_ok, nmX4⟩
theorem wi4 : Cond.instantiable RX4 9 ∈ kTBL ∧ Cond.initialized RX4 ∈ kTBL := ⟨(ktb2 129 (by decide +kernel) (by decide +kernel)), (ktb1 12 (by decide +kernel) (by decide +kernel))⟩
theorem ncl11 : nCl 11 RX11 TX11 13 tyX11 := ⟨rfl, kin_11, tyX11_ok, nmX11⟩
theorem wi11 : Cond.instantiable RX11 13 ∈ kTBL ∧ Cond.initialized RX11 ∈ kTBL := ⟨(ktb1 24 (by decide +kernel) (by decide +kernel)), (ktb1 1 (by decide +kernel) (by decide +kernel))⟩
theorem ncl12 : nCl 12 RX12 TX12 50 tyX12 := ⟨rfl, kin_12, tyX12_ok, nmX12⟩
theorem wi12 : Cond.instantiable RX12 50 ∈ kTBL ∧ Cond.initialized RX12 ∈ kTBL := ⟨(ktb5 209 (by decide +kernel) (by decide +kernel)), (ktb1 14 (by decide +kernel) (by decide +kernel))⟩
def nF_1 (g : kG) (av : List Value) (a : Nat) (qs : List Nat) : va_W := [(a, .inr (1, [.ref (qs.getD 0 0), .ref (qs.getD 1 0), .int 0, .int 0]))] ++ [((qs.getD 0 0), .inl ((g).2.1.1, 900, .inl (fun _ => Int32.ofInt 0)))] ++ [((qs.getD 1 0), .inl ((g).2.1.1, 301, .inl (fun _ => Int32.ofInt 0)))]
set_option maxRecDepth 100000 in
set_option maxHeartbeats 4000000 in
theorem nc_1 : nCon yX1_init cX1_init 1 { frames := 1, cells := 2, slots := 1201, locals := 12 } 1 (nDef 4 tyX1) 2 1201 (fun av => av = []) nF_1 := nCon_of (by decide +kernel) rfl (by
  rintro a av rfl
  exact Nat.le_of_ble_eq_true rfl) (by
  rintro B a av rfl C hN hE
  refine nW_eq (ws' := (a, .inr (1, [.null, .null, .int 0, .int 0])) :: ([])) rfl ?_
  refine n_aload C 0 dX1_init_0 rfl ?_
  refine n_objInit C dX1_init_1 ⟨(ktb1 42 (by decide +kernel) (by decide +kernel)), w_obj⟩ ⟨by decide, by decide⟩ ?_
  refine n_aload C 0 dX1_init_4 rfl ?_
  refine n_sipush (v := 900) C dX1_init_5 rfl ?_
  refine n_newi (N := 900) (k' := 1) (n' := 900) C dX1_init_8 w_arr_int ⟨by decide, by decide, by decide⟩ ⟨rfl, rfl, by decide, by decide⟩ (fun q8 => ?_)
  refine n_putF (j := 0) (fs := [.null, .null, .int 0, .int 0]) C hN ncl1 dX1_init_10 (ktb1 43 (by decide +kernel) (by decide +kernel)) ⟨by decide, Nat.le_of_ble_eq_true rfl, rfl, rfl⟩ rfl rfl ?_
  refine nW_eq (ws' := (a, .inr (1, [.ref q8, .null, .int 0, .int 0])) :: ([] ++ [(q8, .inl ((nGof B).2.1.1, 900, .inl (fun _ => Int32.ofInt 0)))])) rfl ?_
  refine n_aload C 0 dX1_init_13 rfl ?_
  refine n_sipush (v := 301) C dX1_init_14 rfl ?_
  refine n_newi (N := 301) (k' := 2) (n' := 1201) C dX1_init_17 w_arr_int ⟨by decide, by decide, by decide⟩ ⟨rfl, rfl, by decide, by decide⟩ (fun q17 => ?_)
  refine n_putF (j := 1) (fs := [.ref q8, .null, .int 0, .int 0]) C hN ncl1 dX1_init_19 (ktb1 47 (by decide +kernel) (by decide +kernel)) ⟨by decide, Nat.le_of_ble_eq_true rfl, rfl, rfl⟩ rfl rfl ?_
  refine nW_eq (ws' := (a, .inr (1, [.ref q8, .ref q17, .int 0, .int 0])) :: ([] ++ [(q8, .inl ((nGof B).2.1.1, 900, .inl (fun _ => Int32.ofInt 0)))] ++ [(q17, .inl ((nGof B).2.1.1, 301, .inl (fun _ => Int32.ofInt 0)))])) rfl ?_
  exact hE [q8, q17] _ _ dX1_init_22)
def nF_10 (g : kG) (av : List Value) (a : Nat) (qs : List Nat) : va_W := [(a, .inr (10, [.ref (qs.getD 0 0), .ref (qs.getD 1 0), .ref (qs.getD 2 0), .int 0, .int 0, .int 0, .ref (qs.getD 3 0), .ref (qs.getD 6 0), .ref (qs.getD 9 0), .int 0]))] ++ [((qs.getD 0 0), .inl ((g).2.1.1, 5000, .inl (fun _ => Int32.ofInt 0)))] ++ [((qs.getD 1 0), .inl ((g).2.1.1, 5000, .inl (fun _ => Int32.ofInt 0)))] ++ [((qs.getD 2 0), .inl ((g).2.1.1, 900, .inl (fun _ => Int32.ofInt 0)))] ++ nF_1 g [] (qs.getD 3 0) [qs.getD 4 0, qs.getD 5 0] ++ nF_1 g [] (qs.getD 6 0) [qs.getD 7 0, qs.getD 8 0] ++ [((qs.getD 9 0), .inl ((g).2.1.2.1, 5000, .inl (fun _ => Int32.ofInt 0)))]
set_option maxRecDepth 100000 in
set_option maxHeartbeats 4000000 in
theorem nc_10 : nCon yX10_init cX10_init 1 { frames := 2, cells := 10, slots := 18310, locals := 32 } 10 (nDef 10 tyX10) 10 18310 (fun av => av = []) nF_10 := nCon_of (by decide +kernel) rfl (by
  rintro a av rfl
  exact Nat.le_of_ble_eq_true rfl) (by
  rintro B a av rfl C hN hE
  refine nW_eq (ws' := (a, .inr (10, [.null, .null, .null, .int 0, .int 0, .int 0, .null, .null, .null, .int 0])) :: ([])) rfl ?_
  refine n_aload C 0 dX10_init_0 rfl ?_
  refine n_objInit C dX10_init_1 ⟨(ktb1 36 (by decide +kernel) (by decide +kernel)), w_obj⟩ ⟨by decide, by decide⟩ ?_
  refine n_aload C 0 dX10_init_4 rfl ?_
  refine n_sipush (v := 5000) C dX10_init_5 rfl ?_
  refine n_newi (N := 5000) (k' := 1) (n' := 5000) C dX10_init_8 w_arr_int ⟨by decide, by decide, by decide⟩ ⟨rfl, rfl, by decide, by decide⟩ (fun q8 => ?_)
  refine n_putF (j := 0) (fs := [.null, .null, .null, .int 0, .int 0, .int 0, .null, .null, .null, .int 0]) C hN ncl10 dX10_init_10 (ktb1 63 (by decide +kernel) (by decide +kernel)) ⟨by decide, Nat.le_of_ble_eq_true rfl, rfl, rfl⟩ rfl rfl ?_
  refine nW_eq (ws' := (a, .inr (10, [.ref q8, .null, .null, .int 0, .int 0, .int 0, .null, .null, .null, .int 0])) :: ([] ++ [(q8, .inl ((nGof B).2.1.1, 5000, .inl (fun _ => Int32.ofInt 0)))])) rfl ?_
  refine n_aload C 0 dX10_init_13 rfl ?_
  refine n_sipush (v := 5000) C dX10_init_14 rfl ?_
  refine n_newi (N := 5000) (k' := 2) (n' := 10000) C dX10_init_17 w_arr_int ⟨by decide, by decide, by decide⟩ ⟨rfl, rfl, by decide, by decide⟩ (fun q17 => ?_)
  refine n_putF (j := 1) (fs := [.ref q8, .null, .null, .int 0, .int 0, .int 0, .null, .null, .null, .int 0]) C hN ncl10 dX10_init_19 (ktb1 71 (by decide +kernel) (by decide +kernel)) ⟨by decide, Nat.le_of_ble_eq_true rfl, rfl, rfl⟩ rfl rfl ?_
  refine nW_eq (ws' := (a, .inr (10, [.ref q8, .ref q17, .null, .int 0, .int 0, .int 0, .null, .null, .null, .int 0])) :: ([] ++ [(q8, .inl ((nGof B).2.1.1, 5000, .inl (fun _ => Int32.ofInt 0)))] ++ [(q17, .inl ((nGof B).2.1.1, 5000, .inl (fun _ => Int32.ofInt 0)))])) rfl ?_
  refine n_aload C 0 dX10_init_22 rfl ?_
  refine n_sipush (v := 900) C dX10_init_23 rfl ?_
  refine n_newi (N := 900) (k' := 3) (n' := 10900) C dX10_init_26 w_arr_int ⟨by decide, by decide, by decide⟩ ⟨rfl, rfl, by decide, by decide⟩ (fun q26 => ?_)
  refine n_putF (j := 2) (fs := [.ref q8, .ref q17, .null, .int 0, .int 0, .int 0, .null, .null, .null, .int 0]) C hN ncl10 dX10_init_28 (ktb1 79 (by decide +kernel) (by decide +kernel)) ⟨by decide, Nat.le_of_ble_eq_true rfl, rfl, rfl⟩ rfl rfl ?_
  refine nW_eq (ws' := (a, .inr (10, [.ref q8, .ref q17, .ref q26, .int 0, .int 0, .int 0, .null, .null, .null, .int 0])) :: ([] ++ [(q8, .inl ((nGof B).2.1.1, 5000, .inl (fun _ => Int32.ofInt 0)))] ++ [(q17, .inl ((nGof B).2.1.1, 5000, .inl (fun _ => Int32.ofInt 0)))] ++ [(q26, .inl ((nGof B).2.1.1, 900, .inl (fun _ => Int32.ofInt 0)))])) rfl ?_
  refine n_aload C 0 dX10_init_31 rfl ?_
  refine n_new (k' := 4) (n' := 10904) C ncl1 dX10_init_32 ⟨(ktb1 37 (by decide +kernel) (by decide +kernel)), wi1⟩ ⟨rfl, rfl, by decide, by decide⟩ (fun q32 => ?_)
  refine n_dup C dX10_init_35 rfl ?_
  refine nW_eq (ws' := ((a, .inr (10, [.ref q8, .ref q17, .ref q26, .int 0, .int 0, .int 0, .null, .null, .null, .int 0])) :: ([] ++ [(q8, .inl ((nGof B).2.1.1, 5000, .inl (fun _ => Int32.ofInt 0)))] ++ [(q17, .inl ((nGof B).2.1.1, 5000, .inl (fun _ => Int32.ofInt 0)))] ++ [(q26, .inl ((nGof B).2.1.1, 900, .inl (fun _ => Int32.ofInt 0)))])) ++ [(q32, .inr (1, nDef 4 tyX1))]) rfl ?_
  refine n_callIN (k' := 6) (n' := 12105) (av := []) (host := RX11) C nc_1 dX10_init_36 ⟨(ktb1 41 (by decide +kernel) (by decide +kernel)), (ktb1 40 (by decide +kernel) (by decide +kernel)), (ktb1 3 (by decide +kernel) (by decide +kernel))⟩ (List.mem_of_getElem? (i := 2) rfl) ⟨rfl, by decide +kernel, by decide +kernel, by decide +kernel⟩ ⟨rfl, rfl, by decide, by decide⟩ ⟨rfl, rfl, by decide, by decide⟩ rfl rfl (Nat.le_of_ble_eq_true rfl) (fun s36 => ?_)
  refine n_putF (j := 6) (fs := [.ref q8, .ref q17, .ref q26, .int 0, .int 0, .int 0, .null, .null, .null, .int 0]) C hN ncl10 dX10_init_39 (ktb1 106 (by decide +kernel) (by decide +kernel)) ⟨by decide, Nat.le_of_ble_eq_true rfl, rfl, rfl⟩ rfl rfl ?_
  refine nW_eq (ws' := (a, .inr (10, [.ref q8, .ref q17, .ref q26, .int 0, .int 0, .int 0, .ref q32, .null, .null, .int 0])) :: ([] ++ [(q8, .inl ((nGof B).2.1.1, 5000, .inl (fun _ => Int32.ofInt 0)))] ++ [(q17, .inl ((nGof B).2.1.1, 5000, .inl (fun _ => Int32.ofInt 0)))] ++ [(q26, .inl ((nGof B).2.1.1, 900, .inl (fun _ => Int32.ofInt 0)))] ++ nF_1 (nGof B) [] q32 s36)) rfl ?_
  refine n_aload C 0 dX10_init_42 rfl ?_
  refine n_new (k' := 7) (n' := 12109) C ncl1 dX10_init_43 ⟨(ktb1 37 (by decide +kernel) (by decide +kernel)), wi1⟩ ⟨rfl, rfl, by decide, by decide⟩ (fun q43 => ?_)
  refine n_dup C dX10_init_46 rfl ?_
  refine nW_eq (ws' := ((a, .inr (10, [.ref q8, .ref q17, .ref q26, .int 0, .int 0, .int 0, .ref q32, .null, .null, .int 0])) :: ([] ++ [(q8, .inl ((nGof B).2.1.1, 5000, .inl (fun _ => Int32.ofInt 0)))] ++ [(q17, .inl ((nGof B).2.1.1, 5000, .inl (fun _ => Int32.ofInt 0)))] ++ [(q26, .inl ((nGof B).2.1.1, 900, .inl (fun _ => Int32.ofInt 0)))] ++ nF_1 (nGof B) [] q32 s36)) ++ [(q43, .inr (1, nDef 4 tyX1))]) rfl ?_
  refine n_callIN (k' := 9) (n' := 13310) (av := []) (host := RX11) C nc_1 dX10_init_47 ⟨(ktb1 41 (by decide +kernel) (by decide +kernel)), (ktb1 40 (by decide +kernel) (by decide +kernel)), (ktb1 3 (by decide +kernel) (by decide +kernel))⟩ (List.mem_of_getElem? (i := 2) rfl) ⟨rfl, by decide +kernel, by decide +kernel, by decide +kernel⟩ ⟨rfl, rfl, by decide, by decide⟩ ⟨rfl, rfl, by decide, by decide⟩ rfl rfl (Nat.le_of_ble_eq_true rfl) (fun s47 => ?_)
  refine n_putF (j := 7) (fs := [.ref q8, .ref q17, .ref q26, .int 0, .int 0, .int 0, .ref q32, .null, .null, .int 0]) C hN ncl10 dX10_init_50 (ktb1 109 (by decide +kernel) (by decide +kernel)) ⟨by decide, Nat.le_of_ble_eq_true rfl, rfl, rfl⟩ rfl rfl ?_
  refine nW_eq (ws' := (a, .inr (10, [.ref q8, .ref q17, .ref q26, .int 0, .int 0, .int 0, .ref q32, .ref q43, .null, .int 0])) :: ([] ++ [(q8, .inl ((nGof B).2.1.1, 5000, .inl (fun _ => Int32.ofInt 0)))] ++ [(q17, .inl ((nGof B).2.1.1, 5000, .inl (fun _ => Int32.ofInt 0)))] ++ [(q26, .inl ((nGof B).2.1.1, 900, .inl (fun _ => Int32.ofInt 0)))] ++ nF_1 (nGof B) [] q32 s36 ++ nF_1 (nGof B) [] q43 s47)) rfl ?_
  refine n_aload C 0 dX10_init_53 rfl ?_
  refine n_sipush (v := 5000) C dX10_init_54 rfl ?_
  refine n_newb (N := 5000) (k' := 10) (n' := 18310) C dX10_init_57 w_arr_boolean ⟨by decide, by decide, by decide⟩ ⟨rfl, rfl, by decide, by decide⟩ (fun q57 => ?_)
  refine n_putF (j := 8) (fs := [.ref q8, .ref q17, .ref q26, .int 0, .int 0, .int 0, .ref q32, .ref q43, .null, .int 0]) C hN ncl10 dX10_init_59 (ktb1 112 (by decide +kernel) (by decide +kernel)) ⟨by decide, Nat.le_of_ble_eq_true rfl, rfl, rfl⟩ rfl rfl ?_
  refine nW_eq (ws' := (a, .inr (10, [.ref q8, .ref q17, .ref q26, .int 0, .int 0, .int 0, .ref q32, .ref q43, .ref q57, .int 0])) :: ([] ++ [(q8, .inl ((nGof B).2.1.1, 5000, .inl (fun _ => Int32.ofInt 0)))] ++ [(q17, .inl ((nGof B).2.1.1, 5000, .inl (fun _ => Int32.ofInt 0)))] ++ [(q26, .inl ((nGof B).2.1.1, 900, .inl (fun _ => Int32.ofInt 0)))] ++ nF_1 (nGof B) [] q32 s36 ++ nF_1 (nGof B) [] q43 s47 ++ [(q57, .inl ((nGof B).2.1.2.1, 5000, .inl (fun _ => Int32.ofInt 0)))])) rfl ?_
  exact hE [q8, q17, q26, q32, s36.getD 0 0, s36.getD 1 0, q43, s47.getD 0 0, s47.getD 1 0, q57] _ _ dX10_init_62)
def nF_8 (g : kG) (av : List Value) (a : Nat) (qs : List Nat) : va_W := [(a, .inr (8, [.ref (qs.getD 0 0), .ref (qs.getD 1 0), .ref (qs.getD 2 0), .ref (qs.getD 3 0), .ref (qs.getD 4 0), .ref (qs.getD 5 0), (av.getD 0 .null), .ref (qs.getD 6 0), .ref (qs.getD 7 0)]))] ++ [((qs.getD 0 0), .inl ((g).2.1.1, 5000, .inl (fun _ => Int32.ofInt 0)))] ++ [((qs.getD 1 0), .inl ((g).2.1.2.1, 5000, .inl (fun _ => Int32.ofInt 0)))] ++ [((qs.getD 2 0), .inl ((g).2.1.1, 300, .inl (fun _ => Int32.ofInt 0)))] ++ [((qs.getD 3 0), .inl ((g).2.1.1, 300, .inl (fun _ => Int32.ofInt 0)))] ++ [((qs.getD 4 0), .inl ((g).2.1.1, 300, .inl (fun _ => Int32.ofInt 0)))] ++ [((qs.getD 5 0), .inl ((g).2.1.1, 300, .inl (fun _ => Int32.ofInt 0)))] ++ [((qs.getD 6 0), .inl ((g).2.1.1, 300, .inl (fun _ => Int32.ofInt 0)))] ++ [((qs.getD 7 0), .inl ((g).2.1.1, 300, .inl (fun _ => Int32.ofInt 0)))]
set_option maxRecDepth 100000 in
set_option maxHeartbeats 4000000 in
theorem nc_8 : nCon yX8_init cX8_init 2 { frames := 1, cells := 8, slots := 11800, locals := 12 } 8 (nDef 9 tyX8) 8 11800 (fun av => ∃ w0, av = [.ref w0]) nF_8 := nCon_of (by decide +kernel) rfl (by
  rintro a av ⟨w0, rfl⟩
  exact Nat.le_of_ble_eq_true rfl) (by
  rintro B a av ⟨w0, rfl⟩ C hN hE
  refine nW_eq (ws' := (a, .inr (8, [.null, .null, .null, .null, .null, .null, .null, .null, .null])) :: ([])) rfl ?_
  refine n_aload C 0 dX8_init_0 rfl ?_
  refine n_objInit C dX8_init_1 ⟨(ktb1 141 (by decide +kernel) (by decide +kernel)), w_obj⟩ ⟨by decide, by decide⟩ ?_
  refine n_aload C 0 dX8_init_4 rfl ?_
  refine n_sipush (v := 5000) C dX8_init_5 rfl ?_
  refine n_newi (N := 5000) (k' := 1) (n' := 5000) C dX8_init_8 w_arr_int ⟨by decide, by decide, by decide⟩ ⟨rfl, rfl, by decide, by decide⟩ (fun q8 => ?_)
  refine n_putF (j := 0) (fs := [.null, .null, .null, .null, .null, .null, .null, .null, .null]) C hN ncl8 dX8_init_10 (ktb1 142 (by decide +kernel) (by decide +kernel)) ⟨by decide, Nat.le_of_ble_eq_true rfl, rfl, rfl⟩ rfl rfl ?_
  refine nW_eq (ws' := (a, .inr (8, [.ref q8, .null, .null, .null, .null, .null, .null, .null, .null])) :: ([] ++ [(q8, .inl ((nGof B).2.1.1, 5000, .inl (fun _ => Int32.ofInt 0)))])) rfl ?_
  refine n_aload C 0 dX8_init_13 rfl ?_
  refine n_sipush (v := 5000) C dX8_init_14 rfl ?_
  refine n_newb (N := 5000) (k' := 2) (n' := 10000) C dX8_init_17 w_arr_boolean ⟨by decide, by decide, by decide⟩ ⟨rfl, rfl, by decide, by decide⟩ (fun q17 => ?_)
  refine n_putF (j := 1) (fs := [.ref q8, .null, .null, .null, .null, .null, .null, .null, .null]) C hN ncl8 dX8_init_19 (ktb1 144 (by decide +kernel) (by decide +kernel)) ⟨by decide, Nat.le_of_ble_eq_true rfl, rfl, rfl⟩ rfl rfl ?_
  refine nW_eq (ws' := (a, .inr (8, [.ref q8, .ref q17, .null, .null, .null, .null, .null, .null, .null])) :: ([] ++ [(q8, .inl ((nGof B).2.1.1, 5000, .inl (fun _ => Int32.ofInt 0)))] ++ [(q17, .inl ((nGof B).2.1.2.1, 5000, .inl (fun _ => Int32.ofInt 0)))])) rfl ?_
  refine n_aload C 0 dX8_init_22 rfl ?_
  refine n_sipush (v := 300) C dX8_init_23 rfl ?_
  refine n_newi (N := 300) (k' := 3) (n' := 10300) C dX8_init_26 w_arr_int ⟨by decide, by decide, by decide⟩ ⟨rfl, rfl, by decide, by decide⟩ (fun q26 => ?_)
  refine n_putF (j := 2) (fs := [.ref q8, .ref q17, .null, .null, .null, .null, .null, .null, .null]) C hN ncl8 dX8_init_28 (ktb1 148 (by decide +kernel) (by decide +kernel)) ⟨by decide, Nat.le_of_ble_eq_true rfl, rfl, rfl⟩ rfl rfl ?_
  refine nW_eq (ws' := (a, .inr (8, [.ref q8, .ref q17, .ref q26, .null, .null, .null, .null, .null, .null])) :: ([] ++ [(q8, .inl ((nGof B).2.1.1, 5000, .inl (fun _ => Int32.ofInt 0)))] ++ [(q17, .inl ((nGof B).2.1.2.1, 5000, .inl (fun _ => Int32.ofInt 0)))] ++ [(q26, .inl ((nGof B).2.1.1, 300, .inl (fun _ => Int32.ofInt 0)))])) rfl ?_
  refine n_aload C 0 dX8_init_31 rfl ?_
  refine n_sipush (v := 300) C dX8_init_32 rfl ?_
  refine n_newi (N := 300) (k' := 4) (n' := 10600) C dX8_init_35 w_arr_int ⟨by decide, by decide, by decide⟩ ⟨rfl, rfl, by decide, by decide⟩ (fun q35 => ?_)
  refine n_putF (j := 3) (fs := [.ref q8, .ref q17, .ref q26, .null, .null, .null, .null, .null, .null]) C hN ncl8 dX8_init_37 (ktb1 151 (by decide +kernel) (by decide +kernel)) ⟨by decide, Nat.le_of_ble_eq_true rfl, rfl, rfl⟩ rfl rfl ?_
  refine nW_eq (ws' := (a, .inr (8, [.ref q8, .ref q17, .ref q26, .ref q35, .null, .null, .null, .null, .null])) :: ([] ++ [(q8, .inl ((nGof B).2.1.1, 5000, .inl (fun _ => Int32.ofInt 0)))] ++ [(q17, .inl ((nGof B).2.1.2.1, 5000, .inl (fun _ => Int32.ofInt 0)))] ++ [(q26, .inl ((nGof B).2.1.1, 300, .inl (fun _ => Int32.ofInt 0)))] ++ [(q35, .inl ((nGof B).2.1.1, 300, .inl (fun _ => Int32.ofInt 0)))])) rfl ?_
  refine n_aload C 0 dX8_init_40 rfl ?_
  refine n_sipush (v := 300) C dX8_init_41 rfl ?_
  refine n_newi (N := 300) (k' := 5) (n' := 10900) C dX8_init_44 w_arr_int ⟨by decide, by decide, by decide⟩ ⟨rfl, rfl, by decide, by decide⟩ (fun q44 => ?_)
  refine n_putF (j := 4) (fs := [.ref q8, .ref q17, .ref q26, .ref q35, .null, .null, .null, .null, .null]) C hN ncl8 dX8_init_46 (ktb1 154 (by decide +kernel) (by decide +kernel)) ⟨by decide, Nat.le_of_ble_eq_true rfl, rfl, rfl⟩ rfl rfl ?_
  refine nW_eq (ws' := (a, .inr (8, [.ref q8, .ref q17, .ref q26, .ref q35, .ref q44, .null, .null, .null, .null])) :: ([] ++ [(q8, .inl ((nGof B).2.1.1, 5000, .inl (fun _ => Int32.ofInt 0)))] ++ [(q17, .inl ((nGof B).2.1.2.1, 5000, .inl (fun _ => Int32.ofInt 0)))] ++ [(q26, .inl ((nGof B).2.1.1, 300, .inl (fun _ => Int32.ofInt 0)))] ++ [(q35, .inl ((nGof B).2.1.1, 300, .inl (fun _ => Int32.ofInt 0)))] ++ [(q44, .inl ((nGof B).2.1.1, 300, .inl (fun _ => Int32.ofInt 0)))])) rfl ?_
  refine n_aload C 0 dX8_init_49 rfl ?_
  refine n_sipush (v := 300) C dX8_init_50 rfl ?_
  refine n_newi (N := 300) (k' := 6) (n' := 11200) C dX8_init_53 w_arr_int ⟨by decide, by decide, by decide⟩ ⟨rfl, rfl, by decide, by decide⟩ (fun q53 => ?_)
  refine n_putF (j := 5) (fs := [.ref q8, .ref q17, .ref q26, .ref q35, .ref q44, .null, .null, .null, .null]) C hN ncl8 dX8_init_55 (ktb1 156 (by decide +kernel) (by decide +kernel)) ⟨by decide, Nat.le_of_ble_eq_true rfl, rfl, rfl⟩ rfl rfl ?_
  refine nW_eq (ws' := (a, .inr (8, [.ref q8, .ref q17, .ref q26, .ref q35, .ref q44, .ref q53, .null, .null, .null])) :: ([] ++ [(q8, .inl ((nGof B).2.1.1, 5000, .inl (fun _ => Int32.ofInt 0)))] ++ [(q17, .inl ((nGof B).2.1.2.1, 5000, .inl (fun _ => Int32.ofInt 0)))] ++ [(q26, .inl ((nGof B).2.1.1, 300, .inl (fun _ => Int32.ofInt 0)))] ++ [(q35, .inl ((nGof B).2.1.1, 300, .inl (fun _ => Int32.ofInt 0)))] ++ [(q44, .inl ((nGof B).2.1.1, 300, .inl (fun _ => Int32.ofInt 0)))] ++ [(q53, .inl ((nGof B).2.1.1, 300, .inl (fun _ => Int32.ofInt 0)))])) rfl ?_
  refine n_aload C 0 dX8_init_58 rfl ?_
  refine n_sipush (v := 300) C dX8_init_59 rfl ?_
  refine n_newi (N := 300) (k' := 7) (n' := 11500) C dX8_init_62 w_arr_int ⟨by decide, by decide, by decide⟩ ⟨rfl, rfl, by decide, by decide⟩ (fun q62 => ?_)
  refine n_putF (j := 7) (fs := [.ref q8, .ref q17, .ref q26, .ref q35, .ref q44, .ref q53, .null, .null, .null]) C hN ncl8 dX8_init_64 (ktb1 161 (by decide +kernel) (by decide +kernel)) ⟨by decide, Nat.le_of_ble_eq_true rfl, rfl, rfl⟩ rfl rfl ?_
  refine nW_eq (ws' := (a, .inr (8, [.ref q8, .ref q17, .ref q26, .ref q35, .ref q44, .ref q53, .null, .ref q62, .null])) :: ([] ++ [(q8, .inl ((nGof B).2.1.1, 5000, .inl (fun _ => Int32.ofInt 0)))] ++ [(q17, .inl ((nGof B).2.1.2.1, 5000, .inl (fun _ => Int32.ofInt 0)))] ++ [(q26, .inl ((nGof B).2.1.1, 300, .inl (fun _ => Int32.ofInt 0)))] ++ [(q35, .inl ((nGof B).2.1.1, 300, .inl (fun _ => Int32.ofInt 0)))] ++ [(q44, .inl ((nGof B).2.1.1, 300, .inl (fun _ => Int32.ofInt 0)))] ++ [(q53, .inl ((nGof B).2.1.1, 300, .inl (fun _ => Int32.ofInt 0)))] ++ [(q62, .inl ((nGof B).2.1.1, 300, .inl (fun _ => Int32.ofInt 0)))])) rfl ?_
  refine n_aload C 0 dX8_init_67 rfl ?_
  refine n_sipush (v := 300) C dX8_init_68 rfl ?_
  refine n_newi (N := 300) (k' := 8) (n' := 11800) C dX8_init_71 w_arr_int ⟨by decide, by decide, by decide⟩ ⟨rfl, rfl, by decide, by decide⟩ (fun q71 => ?_)
  refine n_putF (j := 8) (fs := [.ref q8, .ref q17, .ref q26, .ref q35, .ref q44, .ref q53, .null, .ref q62, .null]) C hN ncl8 dX8_init_73 (ktb1 162 (by decide +kernel) (by decide +kernel)) ⟨by decide, Nat.le_of_ble_eq_true rfl, rfl, rfl⟩ rfl rfl ?_
  refine nW_eq (ws' := (a, .inr (8, [.ref q8, .ref q17, .ref q26, .ref q35, .ref q44, .ref q53, .null, .ref q62, .ref q71])) :: ([] ++ [(q8, .inl ((nGof B).2.1.1, 5000, .inl (fun _ => Int32.ofInt 0)))] ++ [(q17, .inl ((nGof B).2.1.2.1, 5000, .inl (fun _ => Int32.ofInt 0)))] ++ [(q26, .inl ((nGof B).2.1.1, 300, .inl (fun _ => Int32.ofInt 0)))] ++ [(q35, .inl ((nGof B).2.1.1, 300, .inl (fun _ => Int32.ofInt 0)))] ++ [(q44, .inl ((nGof B).2.1.1, 300, .inl (fun _ => Int32.ofInt 0)))] ++ [(q53, .inl ((nGof B).2.1.1, 300, .inl (fun _ => Int32.ofInt 0)))] ++ [(q62, .inl ((nGof B).2.1.1, 300, .inl (fun _ => Int32.ofInt 0)))] ++ [(q71, .inl ((nGof B).2.1.1, 300, .inl (fun _ => Int32.ofInt 0)))])) rfl ?_
  refine n_aload C 0 dX8_init_76 rfl ?_
  refine n_aload C 1 dX8_init_77 rfl ?_
  refine n_putF (j := 6) (fs := [.ref q8, .ref q17, .ref q26, .ref q35, .ref q44, .ref q53, .null, .ref q62, .ref q71]) C hN ncl8 dX8_init_78 (ktb1 160 (by decide +kernel) (by decide +kernel)) ⟨by decide, Nat.le_of_ble_eq_true rfl, rfl, rfl⟩ rfl rfl ?_
  refine nW_eq (ws' := (a, .inr (8, [.ref q8, .ref q17, .ref q26, .ref q35, .ref q44, .ref q53, .ref w0, .ref q62, .ref q71])) :: ([] ++ [(q8, .inl ((nGof B).2.1.1, 5000, .inl (fun _ => Int32.ofInt 0)))] ++ [(q17, .inl ((nGof B).2.1.2.1, 5000, .inl (fun _ => Int32.ofInt 0)))] ++ [(q26, .inl ((nGof B).2.1.1, 300, .inl (fun _ => Int32.ofInt 0)))] ++ [(q35, .inl ((nGof B).2.1.1, 300, .inl (fun _ => Int32.ofInt 0)))] ++ [(q44, .inl ((nGof B).2.1.1, 300, .inl (fun _ => Int32.ofInt 0)))] ++ [(q53, .inl ((nGof B).2.1.1, 300, .inl (fun _ => Int32.ofInt 0)))] ++ [(q62, .inl ((nGof B).2.1.1, 300, .inl (fun _ => Int32.ofInt 0)))] ++ [(q71, .inl ((nGof B).2.1.1, 300, .inl (fun _ => Int32.ofInt 0)))])) rfl ?_
  exact hE [q8, q17, q26, q35, q44, q53, q62, q71] _ _ dX8_init_81)
def nF_3 (g : kG) (av : List Value) (a : Nat) (qs : List Nat) : va_W := [(a, .inr (3, [(av.getD 0 .null), (av.getD 1 .null), .ref (qs.getD 0 0)]))] ++ [((qs.getD 0 0), .inl ((g).2.1.2.1, 300, .inl (fun _ => Int32.ofInt 0)))]
set_option maxRecDepth 100000 in
set_option maxHeartbeats 4000000 in
theorem nc_3 : nCon yX3_init cX3_init 3 { frames := 1, cells := 1, slots := 300, locals := 12 } 3 (nDef 3 tyX3) 1 300 (fun av => ∃ w0 w1, av = [.ref w0, .ref w1]) nF_3 := nCon_of (by decide +kernel) rfl (by
  rintro a av ⟨w0, w1, rfl⟩
  exact Nat.le_of_ble_eq_true rfl) (by
  rintro B a av ⟨w0, w1, rfl⟩ C hN hE
  refine nW_eq (ws' := (a, .inr (3, [.null, .null, .null])) :: ([])) rfl ?_
  refine n_aload C 0 dX3_init_0 rfl ?_
  refine n_objInit C dX3_init_1 ⟨(ktb1 187 (by decide +kernel) (by decide +kernel)), w_obj⟩ ⟨by decide, by decide⟩ ?_
  refine n_aload C 0 dX3_init_4 rfl ?_
  refine n_sipush (v := 300) C dX3_init_5 rfl ?_
  refine n_newb (N := 300) (k' := 1) (n' := 300) C dX3_init_8 w_arr_boolean ⟨by decide, by decide, by decide⟩ ⟨rfl, rfl, by decide, by decide⟩ (fun q8 => ?_)
  refine n_putF (j := 2) (fs := [.null, .null, .null]) C hN ncl3 dX3_init_10 (ktb1 190 (by decide +kernel) (by decide +kernel)) ⟨by decide, Nat.le_of_ble_eq_true rfl, rfl, rfl⟩ rfl rfl ?_
  refine nW_eq (ws' := (a, .inr (3, [.null, .null, .ref q8])) :: ([] ++ [(q8, .inl ((nGof B).2.1.2.1, 300, .inl (fun _ => Int32.ofInt 0)))])) rfl ?_
  refine n_aload C 0 dX3_init_13 rfl ?_
  refine n_aload C 1 dX3_init_14 rfl ?_
  refine n_putF (j := 0) (fs := [.null, .null, .ref q8]) C hN ncl3 dX3_init_15 (ktb1 188 (by decide +kernel) (by decide +kernel)) ⟨by decide, Nat.le_of_ble_eq_true rfl, rfl, rfl⟩ rfl rfl ?_
  refine nW_eq (ws' := (a, .inr (3, [.ref w0, .null, .ref q8])) :: ([] ++ [(q8, .inl ((nGof B).2.1.2.1, 300, .inl (fun _ => Int32.ofInt 0)))])) rfl ?_
  refine n_aload C 0 dX3_init_18 rfl ?_
  refine n_aload C 2 dX3_init_19 rfl ?_
  refine n_putF (j := 1) (fs := [.ref w0, .null, .ref q8]) C hN ncl3 dX3_init_20 (ktb1 189 (by decide +kernel) (by decide +kernel)) ⟨by decide, Nat.le_of_ble_eq_true rfl, rfl, rfl⟩ rfl rfl ?_
  refine nW_eq (ws' := (a, .inr (3, [.ref w0, .ref w1, .ref q8])) :: ([] ++ [(q8, .inl ((nGof B).2.1.2.1, 300, .inl (fun _ => Int32.ofInt 0)))])) rfl ?_
  exact hE [q8] _ _ dX3_init_23)
def nF_9 (g : kG) (av : List Value) (a : Nat) (qs : List Nat) : va_W := [(a, .inr (9, [(av.getD 0 .null), (av.getD 1 .null), .ref (qs.getD 0 0), .int 0]))] ++ [((qs.getD 0 0), .inl ((g).2.1.1, 300, .inl (fun _ => Int32.ofInt 0)))]
set_option maxRecDepth 100000 in
set_option maxHeartbeats 4000000 in
theorem nc_9 : nCon yX9_init cX9_init 3 { frames := 1, cells := 1, slots := 300, locals := 12 } 9 (nDef 4 tyX9) 1 300 (fun av => ∃ w0 w1, av = [.ref w0, .ref w1]) nF_9 := nCon_of (by decide +kernel) rfl (by
  rintro a av ⟨w0, w1, rfl⟩
  exact Nat.le_of_ble_eq_true rfl) (by
  rintro B a av ⟨w0, w1, rfl⟩ C hN hE
  refine nW_eq (ws' := (a, .inr (9, [.null, .null, .null, .int 0])) :: ([])) rfl ?_
  refine n_aload C 0 dX9_init_0 rfl ?_
  refine n_objInit C dX9_init_1 ⟨(ktb1 203 (by decide +kernel) (by decide +kernel)), w_obj⟩ ⟨by decide, by decide⟩ ?_
  refine n_aload C 0 dX9_init_4 rfl ?_
  refine n_sipush (v := 300) C dX9_init_5 rfl ?_
  refine n_newi (N := 300) (k' := 1) (n' := 300) C dX9_init_8 w_arr_int ⟨by decide, by decide, by decide⟩ ⟨rfl, rfl, by decide, by decide⟩ (fun q8 => ?_)
  refine n_putF (j := 2) (fs := [.null, .null, .null, .int 0]) C hN ncl9 dX9_init_10 (ktb1 206 (by decide +kernel) (by decide +kernel)) ⟨by decide, Nat.le_of_ble_eq_true rfl, rfl, rfl⟩ rfl rfl ?_
  refine nW_eq (ws' := (a, .inr (9, [.null, .null, .ref q8, .int 0])) :: ([] ++ [(q8, .inl ((nGof B).2.1.1, 300, .inl (fun _ => Int32.ofInt 0)))])) rfl ?_
  refine n_aload C 0 dX9_init_13 rfl ?_
  refine n_aload C 1 dX9_init_14 rfl ?_
  refine n_putF (j := 0) (fs := [.null, .null, .ref q8, .int 0]) C hN ncl9 dX9_init_15 (ktb1 204 (by decide +kernel) (by decide +kernel)) ⟨by decide, Nat.le_of_ble_eq_true rfl, rfl, rfl⟩ rfl rfl ?_
  refine nW_eq (ws' := (a, .inr (9, [.ref w0, .null, .ref q8, .int 0])) :: ([] ++ [(q8, .inl ((nGof B).2.1.1, 300, .inl (fun _ => Int32.ofInt 0)))])) rfl ?_
  refine n_aload C 0 dX9_init_18 rfl ?_
  refine n_aload C 2 dX9_init_19 rfl ?_
  refine n_putF (j := 1) (fs := [.ref w0, .null, .ref q8, .int 0]) C hN ncl9 dX9_init_20 (ktb1 205 (by decide +kernel) (by decide +kernel)) ⟨by decide, Nat.le_of_ble_eq_true rfl, rfl, rfl⟩ rfl rfl ?_
  refine nW_eq (ws' := (a, .inr (9, [.ref w0, .ref w1, .ref q8, .int 0])) :: ([] ++ [(q8, .inl ((nGof B).2.1.1, 300, .inl (fun _ => Int32.ofInt 0)))])) rfl ?_
  exact hE [q8] _ _ dX9_init_23)
def nF_5 (g : kG) (av : List Value) (a : Nat) (qs : List Nat) : va_W := [(a, .inr (5, [.ref (qs.getD 0 0), (av.getD 0 .null), .ref (qs.getD 1 0), .ref (qs.getD 2 0), .ref (qs.getD 3 0), .ref (qs.getD 4 0), .ref (qs.getD 5 0), .ref (qs.getD 6 0), .ref (qs.getD 7 0), .int 0]))] ++ [((qs.getD 0 0), .inl ((g).2.1.2.1, 5000, .inl (fun _ => Int32.ofInt 0)))] ++ [((qs.getD 1 0), .inl ((g).2.1.1, 300, .inl (fun _ => Int32.ofInt 0)))] ++ [((qs.getD 2 0), .inl ((g).2.1.1, 300, .inl (fun _ => Int32.ofInt 0)))] ++ [((qs.getD 3 0), .inl ((g).2.1.1, 300, .inl (fun _ => Int32.ofInt 0)))] ++ [((qs.getD 4 0), .inl ((g).2.1.1, 300, .inl (fun _ => Int32.ofInt 0)))] ++ [((qs.getD 5 0), .inl ((g).2.1.1, 300, .inl (fun _ => Int32.ofInt 0)))] ++ [((qs.getD 6 0), .inl ((g).2.1.1, 300, .inl (fun _ => Int32.ofInt 0)))] ++ [((qs.getD 7 0), .inl ((g).2.1.1, 300, .inl (fun _ => Int32.ofInt 0)))]
set_option maxRecDepth 100000 in
set_option maxHeartbeats 4000000 in
theorem nc_5 : nCon yX5_init cX5_init 2 { frames := 1, cells := 8, slots := 7100, locals := 12 } 5 (nDef 10 tyX5) 8 7100 (fun av => ∃ w0, av = [.ref w0]) nF_5 := nCon_of (by decide +kernel) rfl (by
  rintro a av ⟨w0, rfl⟩
  exact Nat.le_of_ble_eq_true rfl) (by
  rintro B a av ⟨w0, rfl⟩ C hN hE
  refine nW_eq (ws' := (a, .inr (5, [.null, .null, .null, .null, .null, .null, .null, .null, .null, .int 0])) :: ([])) rfl ?_
  refine n_aload C 0 dX5_init_0 rfl ?_
  refine n_objInit C dX5_init_1 ⟨(ktb1 222 (by decide +kernel) (by decide +kernel)), w_obj⟩ ⟨by decide, by decide⟩ ?_
  refine n_aload C 0 dX5_init_4 rfl ?_
  refine n_sipush (v := 5000) C dX5_init_5 rfl ?_
  refine n_newb (N := 5000) (k' := 1) (n' := 5000) C dX5_init_8 w_arr_boolean ⟨by decide, by decide, by decide⟩ ⟨rfl, rfl, by decide, by decide⟩ (fun q8 => ?_)
  refine n_putF (j := 0) (fs := [.null, .null, .null, .null, .null, .null, .null, .null, .null, .int 0]) C hN ncl5 dX5_init_10 (ktb1 223 (by decide +kernel) (by decide +kernel)) ⟨by decide, Nat.le_of_ble_eq_true rfl, rfl, rfl⟩ rfl rfl ?_
  refine nW_eq (ws' := (a, .inr (5, [.ref q8, .null, .null, .null, .null, .null, .null, .null, .null, .int 0])) :: ([] ++ [(q8, .inl ((nGof B).2.1.2.1, 5000, .inl (fun _ => Int32.ofInt 0)))])) rfl ?_
  refine n_aload C 0 dX5_init_13 rfl ?_
  refine n_sipush (v := 300) C dX5_init_14 rfl ?_
  refine n_newi (N := 300) (k' := 2) (n' := 5300) C dX5_init_17 w_arr_int ⟨by decide, by decide, by decide⟩ ⟨rfl, rfl, by decide, by decide⟩ (fun q17 => ?_)
  refine n_putF (j := 2) (fs := [.ref q8, .null, .null, .null, .null, .null, .null, .null, .null, .int 0]) C hN ncl5 dX5_init_19 (ktb1 226 (by decide +kernel) (by decide +kernel)) ⟨by decide, Nat.le_of_ble_eq_true rfl, rfl, rfl⟩ rfl rfl ?_
  refine nW_eq (ws' := (a, .inr (5, [.ref q8, .null, .ref q17, .null, .null, .null, .null, .null, .null, .int 0])) :: ([] ++ [(q8, .inl ((nGof B).2.1.2.1, 5000, .inl (fun _ => Int32.ofInt 0)))] ++ [(q17, .inl ((nGof B).2.1.1, 300, .inl (fun _ => Int32.ofInt 0)))])) rfl ?_
  refine n_aload C 0 dX5_init_22 rfl ?_
  refine n_sipush (v := 300) C dX5_init_23 rfl ?_
  refine n_newi (N := 300) (k' := 3) (n' := 5600) C dX5_init_26 w_arr_int ⟨by decide, by decide, by decide⟩ ⟨rfl, rfl, by decide, by decide⟩ (fun q26 => ?_)
  refine n_putF (j := 3) (fs := [.ref q8, .null, .ref q17, .null, .null, .null, .null, .null, .null, .int 0]) C hN ncl5 dX5_init_28 (ktb1 227 (by decide +kernel) (by decide +kernel)) ⟨by decide, Nat.le_of_ble_eq_true rfl, rfl, rfl⟩ rfl rfl ?_
  refine nW_eq (ws' := (a, .inr (5, [.ref q8, .null, .ref q17, .ref q26, .null, .null, .null, .null, .null, .int 0])) :: ([] ++ [(q8, .inl ((nGof B).2.1.2.1, 5000, .inl (fun _ => Int32.ofInt 0)))] ++ [(q17, .inl ((nGof B).2.1.1, 300, .inl (fun _ => Int32.ofInt 0)))] ++ [(q26, .inl ((nGof B).2.1.1, 300, .inl (fun _ => Int32.ofInt 0)))])) rfl ?_
  refine n_aload C 0 dX5_init_31 rfl ?_
  refine n_sipush (v := 300) C dX5_init_32 rfl ?_
  refine n_newi (N := 300) (k' := 4) (n' := 5900) C dX5_init_35 w_arr_int ⟨by decide, by decide, by decide⟩ ⟨rfl, rfl, by decide, by decide⟩ (fun q35 => ?_)
  refine n_putF (j := 4) (fs := [.ref q8, .null, .ref q17, .ref q26, .null, .null, .null, .null, .null, .int 0]) C hN ncl5 dX5_init_37 (ktb1 228 (by decide +kernel) (by decide +kernel)) ⟨by decide, Nat.le_of_ble_eq_true rfl, rfl, rfl⟩ rfl rfl ?_
  refine nW_eq (ws' := (a, .inr (5, [.ref q8, .null, .ref q17, .ref q26, .ref q35, .null, .null, .null, .null, .int 0])) :: ([] ++ [(q8, .inl ((nGof B).2.1.2.1, 5000, .inl (fun _ => Int32.ofInt 0)))] ++ [(q17, .inl ((nGof B).2.1.1, 300, .inl (fun _ => Int32.ofInt 0)))] ++ [(q26, .inl ((nGof B).2.1.1, 300, .inl (fun _ => Int32.ofInt 0)))] ++ [(q35, .inl ((nGof B).2.1.1, 300, .inl (fun _ => Int32.ofInt 0)))])) rfl ?_
  refine n_aload C 0 dX5_init_40 rfl ?_
  refine n_sipush (v := 300) C dX5_init_41 rfl ?_
  refine n_newi (N := 300) (k' := 5) (n' := 6200) C dX5_init_44 w_arr_int ⟨by decide, by decide, by decide⟩ ⟨rfl, rfl, by decide, by decide⟩ (fun q44 => ?_)
  refine n_putF (j := 5) (fs := [.ref q8, .null, .ref q17, .ref q26, .ref q35, .null, .null, .null, .null, .int 0]) C hN ncl5 dX5_init_46 (ktb1 229 (by decide +kernel) (by decide +kernel)) ⟨by decide, Nat.le_of_ble_eq_true rfl, rfl, rfl⟩ rfl rfl ?_
  refine nW_eq (ws' := (a, .inr (5, [.ref q8, .null, .ref q17, .ref q26, .ref q35, .ref q44, .null, .null, .null, .int 0])) :: ([] ++ [(q8, .inl ((nGof B).2.1.2.1, 5000, .inl (fun _ => Int32.ofInt 0)))] ++ [(q17, .inl ((nGof B).2.1.1, 300, .inl (fun _ => Int32.ofInt 0)))] ++ [(q26, .inl ((nGof B).2.1.1, 300, .inl (fun _ => Int32.ofInt 0)))] ++ [(q35, .inl ((nGof B).2.1.1, 300, .inl (fun _ => Int32.ofInt 0)))] ++ [(q44, .inl ((nGof B).2.1.1, 300, .inl (fun _ => Int32.ofInt 0)))])) rfl ?_
  refine n_aload C 0 dX5_init_49 rfl ?_
  refine n_sipush (v := 300) C dX5_init_50 rfl ?_
  refine n_newi (N := 300) (k' := 6) (n' := 6500) C dX5_init_53 w_arr_int ⟨by decide, by decide, by decide⟩ ⟨rfl, rfl, by decide, by decide⟩ (fun q53 => ?_)
  refine n_putF (j := 6) (fs := [.ref q8, .null, .ref q17, .ref q26, .ref q35, .ref q44, .null, .null, .null, .int 0]) C hN ncl5 dX5_init_55 (ktb1 230 (by decide +kernel) (by decide +kernel)) ⟨by decide, Nat.le_of_ble_eq_true rfl, rfl, rfl⟩ rfl rfl ?_
  refine nW_eq (ws' := (a, .inr (5, [.ref q8, .null, .ref q17, .ref q26, .ref q35, .ref q44, .ref q53, .null, .null, .int 0])) :: ([] ++ [(q8, .inl ((nGof B).2.1.2.1, 5000, .inl (fun _ => Int32.ofInt 0)))] ++ [(q17, .inl ((nGof B).2.1.1, 300, .inl (fun _ => Int32.ofInt 0)))] ++ [(q26, .inl ((nGof B).2.1.1, 300, .inl (fun _ => Int32.ofInt 0)))] ++ [(q35, .inl ((nGof B).2.1.1, 300, .inl (fun _ => Int32.ofInt 0)))] ++ [(q44, .inl ((nGof B).2.1.1, 300, .inl (fun _ => Int32.ofInt 0)))] ++ [(q53, .inl ((nGof B).2.1.1, 300, .inl (fun _ => Int32.ofInt 0)))])) rfl ?_
  refine n_aload C 0 dX5_init_58 rfl ?_
  refine n_sipush (v := 300) C dX5_init_59 rfl ?_
  refine n_newi (N := 300) (k' := 7) (n' := 6800) C dX5_init_62 w_arr_int ⟨by decide, by decide, by decide⟩ ⟨rfl, rfl, by decide, by decide⟩ (fun q62 => ?_)
  refine n_putF (j := 7) (fs := [.ref q8, .null, .ref q17, .ref q26, .ref q35, .ref q44, .ref q53, .null, .null, .int 0]) C hN ncl5 dX5_init_64 (ktb1 231 (by decide +kernel) (by decide +kernel)) ⟨by decide, Nat.le_of_ble_eq_true rfl, rfl, rfl⟩ rfl rfl ?_
  refine nW_eq (ws' := (a, .inr (5, [.ref q8, .null, .ref q17, .ref q26, .ref q35, .ref q44, .ref q53, .ref q62, .null, .int 0])) :: ([] ++ [(q8, .inl ((nGof B).2.1.2.1, 5000, .inl (fun _ => Int32.ofInt 0)))] ++ [(q17, .inl ((nGof B).2.1.1, 300, .inl (fun _ => Int32.ofInt 0)))] ++ [(q26, .inl ((nGof B).2.1.1, 300, .inl (fun _ => Int32.ofInt 0)))] ++ [(q35, .inl ((nGof B).2.1.1, 300, .inl (fun _ => Int32.ofInt 0)))] ++ [(q44, .inl ((nGof B).2.1.1, 300, .inl (fun _ => Int32.ofInt 0)))] ++ [(q53, .inl ((nGof B).2.1.1, 300, .inl (fun _ => Int32.ofInt 0)))] ++ [(q62, .inl ((nGof B).2.1.1, 300, .inl (fun _ => Int32.ofInt 0)))])) rfl ?_
  refine n_aload C 0 dX5_init_67 rfl ?_
  refine n_sipush (v := 300) C dX5_init_68 rfl ?_
  refine n_newi (N := 300) (k' := 8) (n' := 7100) C dX5_init_71 w_arr_int ⟨by decide, by decide, by decide⟩ ⟨rfl, rfl, by decide, by decide⟩ (fun q71 => ?_)
  refine n_putF (j := 8) (fs := [.ref q8, .null, .ref q17, .ref q26, .ref q35, .ref q44, .ref q53, .ref q62, .null, .int 0]) C hN ncl5 dX5_init_73 (ktb1 232 (by decide +kernel) (by decide +kernel)) ⟨by decide, Nat.le_of_ble_eq_true rfl, rfl, rfl⟩ rfl rfl ?_
  refine nW_eq (ws' := (a, .inr (5, [.ref q8, .null, .ref q17, .ref q26, .ref q35, .ref q44, .ref q53, .ref q62, .ref q71, .int 0])) :: ([] ++ [(q8, .inl ((nGof B).2.1.2.1, 5000, .inl (fun _ => Int32.ofInt 0)))] ++ [(q17, .inl ((nGof B).2.1.1, 300, .inl (fun _ => Int32.ofInt 0)))] ++ [(q26, .inl ((nGof B).2.1.1, 300, .inl (fun _ => Int32.ofInt 0)))] ++ [(q35, .inl ((nGof B).2.1.1, 300, .inl (fun _ => Int32.ofInt 0)))] ++ [(q44, .inl ((nGof B).2.1.1, 300, .inl (fun _ => Int32.ofInt 0)))] ++ [(q53, .inl ((nGof B).2.1.1, 300, .inl (fun _ => Int32.ofInt 0)))] ++ [(q62, .inl ((nGof B).2.1.1, 300, .inl (fun _ => Int32.ofInt 0)))] ++ [(q71, .inl ((nGof B).2.1.1, 300, .inl (fun _ => Int32.ofInt 0)))])) rfl ?_
  refine n_aload C 0 dX5_init_76 rfl ?_
  refine n_aload C 1 dX5_init_77 rfl ?_
  refine n_putF (j := 1) (fs := [.ref q8, .null, .ref q17, .ref q26, .ref q35, .ref q44, .ref q53, .ref q62, .ref q71, .int 0]) C hN ncl5 dX5_init_78 (ktb1 225 (by decide +kernel) (by decide +kernel)) ⟨by decide, Nat.le_of_ble_eq_true rfl, rfl, rfl⟩ rfl rfl ?_
  refine nW_eq (ws' := (a, .inr (5, [.ref q8, .ref w0, .ref q17, .ref q26, .ref q35, .ref q44, .ref q53, .ref q62, .ref q71, .int 0])) :: ([] ++ [(q8, .inl ((nGof B).2.1.2.1, 5000, .inl (fun _ => Int32.ofInt 0)))] ++ [(q17, .inl ((nGof B).2.1.1, 300, .inl (fun _ => Int32.ofInt 0)))] ++ [(q26, .inl ((nGof B).2.1.1, 300, .inl (fun _ => Int32.ofInt 0)))] ++ [(q35, .inl ((nGof B).2.1.1, 300, .inl (fun _ => Int32.ofInt 0)))] ++ [(q44, .inl ((nGof B).2.1.1, 300, .inl (fun _ => Int32.ofInt 0)))] ++ [(q53, .inl ((nGof B).2.1.1, 300, .inl (fun _ => Int32.ofInt 0)))] ++ [(q62, .inl ((nGof B).2.1.1, 300, .inl (fun _ => Int32.ofInt 0)))] ++ [(q71, .inl ((nGof B).2.1.1, 300, .inl (fun _ => Int32.ofInt 0)))])) rfl ?_
  exact hE [q8, q17, q26, q35, q44, q53, q62, q71] _ _ dX5_init_81)
def nF_7 (g : kG) (av : List Value) (a : Nat) (qs : List Nat) : va_W := [(a, .inr (7, [(av.getD 0 .null), .ref (qs.getD 0 0), .ref (qs.getD 1 0), .ref (qs.getD 2 0), .ref (qs.getD 3 0), .int 0, .int 0]))] ++ [((qs.getD 0 0), .inl ((g).2.1.1, 300, .inl (fun _ => Int32.ofInt 0)))] ++ [((qs.getD 1 0), .inl ((g).2.1.1, 300, .inl (fun _ => Int32.ofInt 0)))] ++ [((qs.getD 2 0), .inl ((g).2.1.1, 300, .inl (fun _ => Int32.ofInt 0)))] ++ [((qs.getD 3 0), .inl ((g).2.1.1, 300, .inl (fun _ => Int32.ofInt 0)))]
set_option maxRecDepth 100000 in
set_option maxHeartbeats 4000000 in
theorem nc_7 : nCon yX7_init cX7_init 2 { frames := 1, cells := 4, slots := 1200, locals := 12 } 7 (nDef 7 tyX7) 4 1200 (fun av => ∃ w0, av = [.ref w0]) nF_7 := nCon_of (by decide +kernel) rfl (by
  rintro a av ⟨w0, rfl⟩
  exact Nat.le_of_ble_eq_true rfl) (by
  rintro B a av ⟨w0, rfl⟩ C hN hE
  refine nW_eq (ws' := (a, .inr (7, [.null, .null, .null, .null, .null, .int 0, .int 0])) :: ([])) rfl ?_
  refine n_aload C 0 dX7_init_0 rfl ?_
  refine n_objInit C dX7_init_1 ⟨(ktb2 20 (by decide +kernel) (by decide +kernel)), w_obj⟩ ⟨by decide, by decide⟩ ?_
  refine n_aload C 0 dX7_init_4 rfl ?_
  refine n_sipush (v := 300) C dX7_init_5 rfl ?_
  refine n_newi (N := 300) (k' := 1) (n' := 300) C dX7_init_8 w_arr_int ⟨by decide, by decide, by decide⟩ ⟨rfl, rfl, by decide, by decide⟩ (fun q8 => ?_)
  refine n_putF (j := 1) (fs := [.null, .null, .null, .null, .null, .int 0, .int 0]) C hN ncl7 dX7_init_10 (ktb2 22 (by decide +kernel) (by decide +kernel)) ⟨by decide, Nat.le_of_ble_eq_true rfl, rfl, rfl⟩ rfl rfl ?_
  refine nW_eq (ws' := (a, .inr (7, [.null, .ref q8, .null, .null, .null, .int 0, .int 0])) :: ([] ++ [(q8, .inl ((nGof B).2.1.1, 300, .inl (fun _ => Int32.ofInt 0)))])) rfl ?_
  refine n_aload C 0 dX7_init_13 rfl ?_
  refine n_sipush (v := 300) C dX7_init_14 rfl ?_
  refine n_newi (N := 300) (k' := 2) (n' := 600) C dX7_init_17 w_arr_int ⟨by decide, by decide, by decide⟩ ⟨rfl, rfl, by decide, by decide⟩ (fun q17 => ?_)
  refine n_putF (j := 2) (fs := [.null, .ref q8, .null, .null, .null, .int 0, .int 0]) C hN ncl7 dX7_init_19 (ktb2 23 (by decide +kernel) (by decide +kernel)) ⟨by decide, Nat.le_of_ble_eq_true rfl, rfl, rfl⟩ rfl rfl ?_
  refine nW_eq (ws' := (a, .inr (7, [.null, .ref q8, .ref q17, .null, .null, .int 0, .int 0])) :: ([] ++ [(q8, .inl ((nGof B).2.1.1, 300, .inl (fun _ => Int32.ofInt 0)))] ++ [(q17, .inl ((nGof B).2.1.1, 300, .inl (fun _ => Int32.ofInt 0)))])) rfl ?_
  refine n_aload C 0 dX7_init_22 rfl ?_
  refine n_sipush (v := 300) C dX7_init_23 rfl ?_
  refine n_newi (N := 300) (k' := 3) (n' := 900) C dX7_init_26 w_arr_int ⟨by decide, by decide, by decide⟩ ⟨rfl, rfl, by decide, by decide⟩ (fun q26 => ?_)
  refine n_putF (j := 3) (fs := [.null, .ref q8, .ref q17, .null, .null, .int 0, .int 0]) C hN ncl7 dX7_init_28 (ktb2 24 (by decide +kernel) (by decide +kernel)) ⟨by decide, Nat.le_of_ble_eq_true rfl, rfl, rfl⟩ rfl rfl ?_
  refine nW_eq (ws' := (a, .inr (7, [.null, .ref q8, .ref q17, .ref q26, .null, .int 0, .int 0])) :: ([] ++ [(q8, .inl ((nGof B).2.1.1, 300, .inl (fun _ => Int32.ofInt 0)))] ++ [(q17, .inl ((nGof B).2.1.1, 300, .inl (fun _ => Int32.ofInt 0)))] ++ [(q26, .inl ((nGof B).2.1.1, 300, .inl (fun _ => Int32.ofInt 0)))])) rfl ?_
  refine n_aload C 0 dX7_init_31 rfl ?_
  refine n_sipush (v := 300) C dX7_init_32 rfl ?_
  refine n_newi (N := 300) (k' := 4) (n' := 1200) C dX7_init_35 w_arr_int ⟨by decide, by decide, by decide⟩ ⟨rfl, rfl, by decide, by decide⟩ (fun q35 => ?_)
  refine n_putF (j := 4) (fs := [.null, .ref q8, .ref q17, .ref q26, .null, .int 0, .int 0]) C hN ncl7 dX7_init_37 (ktb2 25 (by decide +kernel) (by decide +kernel)) ⟨by decide, Nat.le_of_ble_eq_true rfl, rfl, rfl⟩ rfl rfl ?_
  refine nW_eq (ws' := (a, .inr (7, [.null, .ref q8, .ref q17, .ref q26, .ref q35, .int 0, .int 0])) :: ([] ++ [(q8, .inl ((nGof B).2.1.1, 300, .inl (fun _ => Int32.ofInt 0)))] ++ [(q17, .inl ((nGof B).2.1.1, 300, .inl (fun _ => Int32.ofInt 0)))] ++ [(q26, .inl ((nGof B).2.1.1, 300, .inl (fun _ => Int32.ofInt 0)))] ++ [(q35, .inl ((nGof B).2.1.1, 300, .inl (fun _ => Int32.ofInt 0)))])) rfl ?_
  refine n_aload C 0 dX7_init_40 rfl ?_
  refine n_aload C 1 dX7_init_41 rfl ?_
  refine n_putF (j := 0) (fs := [.null, .ref q8, .ref q17, .ref q26, .ref q35, .int 0, .int 0]) C hN ncl7 dX7_init_42 (ktb2 21 (by decide +kernel) (by decide +kernel)) ⟨by decide, Nat.le_of_ble_eq_true rfl, rfl, rfl⟩ rfl rfl ?_
  refine nW_eq (ws' := (a, .inr (7, [.ref w0, .ref q8, .ref q17, .ref q26, .ref q35, .int 0, .int 0])) :: ([] ++ [(q8, .inl ((nGof B).2.1.1, 300, .inl (fun _ => Int32.ofInt 0)))] ++ [(q17, .inl ((nGof B).2.1.1, 300, .inl (fun _ => Int32.ofInt 0)))] ++ [(q26, .inl ((nGof B).2.1.1, 300, .inl (fun _ => Int32.ofInt 0)))] ++ [(q35, .inl ((nGof B).2.1.1, 300, .inl (fun _ => Int32.ofInt 0)))])) rfl ?_
  exact hE [q8, q17, q26, q35] _ _ dX7_init_45)
def nF_6 (g : kG) (av : List Value) (a : Nat) (qs : List Nat) : va_W := [(a, .inr (6, [(av.getD 0 .null), .ref (qs.getD 0 0), .ref (qs.getD 1 0), .ref (qs.getD 2 0), .ref (qs.getD 3 0), .ref (qs.getD 4 0), .ref (qs.getD 5 0), .long 0, .int 0]))] ++ [((qs.getD 0 0), .inl ((g).2.1.1, 301, .inl (fun _ => Int32.ofInt 0)))] ++ [((qs.getD 1 0), .inl ((g).2.1.1, 1800, .inl (fun _ => Int32.ofInt 0)))] ++ [((qs.getD 2 0), .inl ((g).2.1.1, 300, .inl (fun _ => Int32.ofInt 0)))] ++ [((qs.getD 3 0), .inl ((g).2.1.1, 300, .inl (fun _ => Int32.ofInt 0)))] ++ [((qs.getD 4 0), .inl ((g).2.1.1, 300, .inl (fun _ => Int32.ofInt 0)))] ++ [((qs.getD 5 0), .inl ((g).2.1.1, 300, .inl (fun _ => Int32.ofInt 0)))]
set_option maxRecDepth 100000 in
set_option maxHeartbeats 4000000 in
theorem nc_6 : nCon yX6_init cX6_init 2 { frames := 1, cells := 6, slots := 3301, locals := 12 } 6 (nDef 9 tyX6) 6 3301 (fun av => ∃ w0, av = [.ref w0]) nF_6 := nCon_of (by decide +kernel) rfl (by
  rintro a av ⟨w0, rfl⟩
  exact Nat.le_of_ble_eq_true rfl) (by
  rintro B a av ⟨w0, rfl⟩ C hN hE
  refine nW_eq (ws' := (a, .inr (6, [.null, .null, .null, .null, .null, .null, .null, .long 0, .int 0])) :: ([])) rfl ?_
  refine n_aload C 0 dX6_init_0 rfl ?_
  refine n_objInit C dX6_init_1 ⟨(ktb2 48 (by decide +kernel) (by decide +kernel)), w_obj⟩ ⟨by decide, by decide⟩ ?_
  refine n_aload C 0 dX6_init_4 rfl ?_
  refine n_sipush (v := 301) C dX6_init_5 rfl ?_
  refine n_newi (N := 301) (k' := 1) (n' := 301) C dX6_init_8 w_arr_int ⟨by decide, by decide, by decide⟩ ⟨rfl, rfl, by decide, by decide⟩ (fun q8 => ?_)
  refine n_putF (j := 1) (fs := [.null, .null, .null, .null, .null, .null, .null, .long 0, .int 0]) C hN ncl6 dX6_init_10 (ktb2 50 (by decide +kernel) (by decide +kernel)) ⟨by decide, Nat.le_of_ble_eq_true rfl, rfl, rfl⟩ rfl rfl ?_
  refine nW_eq (ws' := (a, .inr (6, [.null, .ref q8, .null, .null, .null, .null, .null, .long 0, .int 0])) :: ([] ++ [(q8, .inl ((nGof B).2.1.1, 301, .inl (fun _ => Int32.ofInt 0)))])) rfl ?_
  refine n_aload C 0 dX6_init_13 rfl ?_
  refine n_sipush (v := 1800) C dX6_init_14 rfl ?_
  refine n_newi (N := 1800) (k' := 2) (n' := 2101) C dX6_init_17 w_arr_int ⟨by decide, by decide, by decide⟩ ⟨rfl, rfl, by decide, by decide⟩ (fun q17 => ?_)
  refine n_putF (j := 2) (fs := [.null, .ref q8, .null, .null, .null, .null, .null, .long 0, .int 0]) C hN ncl6 dX6_init_19 (ktb2 51 (by decide +kernel) (by decide +kernel)) ⟨by decide, Nat.le_of_ble_eq_true rfl, rfl, rfl⟩ rfl rfl ?_
  refine nW_eq (ws' := (a, .inr (6, [.null, .ref q8, .ref q17, .null, .null, .null, .null, .long 0, .int 0])) :: ([] ++ [(q8, .inl ((nGof B).2.1.1, 301, .inl (fun _ => Int32.ofInt 0)))] ++ [(q17, .inl ((nGof B).2.1.1, 1800, .inl (fun _ => Int32.ofInt 0)))])) rfl ?_
  refine n_aload C 0 dX6_init_22 rfl ?_
  refine n_sipush (v := 300) C dX6_init_23 rfl ?_
  refine n_newi (N := 300) (k' := 3) (n' := 2401) C dX6_init_26 w_arr_int ⟨by decide, by decide, by decide⟩ ⟨rfl, rfl, by decide, by decide⟩ (fun q26 => ?_)
  refine n_putF (j := 3) (fs := [.null, .ref q8, .ref q17, .null, .null, .null, .null, .long 0, .int 0]) C hN ncl6 dX6_init_28 (ktb2 52 (by decide +kernel) (by decide +kernel)) ⟨by decide, Nat.le_of_ble_eq_true rfl, rfl, rfl⟩ rfl rfl ?_
  refine nW_eq (ws' := (a, .inr (6, [.null, .ref q8, .ref q17, .ref q26, .null, .null, .null, .long 0, .int 0])) :: ([] ++ [(q8, .inl ((nGof B).2.1.1, 301, .inl (fun _ => Int32.ofInt 0)))] ++ [(q17, .inl ((nGof B).2.1.1, 1800, .inl (fun _ => Int32.ofInt 0)))] ++ [(q26, .inl ((nGof B).2.1.1, 300, .inl (fun _ => Int32.ofInt 0)))])) rfl ?_
  refine n_aload C 0 dX6_init_31 rfl ?_
  refine n_sipush (v := 300) C dX6_init_32 rfl ?_
  refine n_newi (N := 300) (k' := 4) (n' := 2701) C dX6_init_35 w_arr_int ⟨by decide, by decide, by decide⟩ ⟨rfl, rfl, by decide, by decide⟩ (fun q35 => ?_)
  refine n_putF (j := 4) (fs := [.null, .ref q8, .ref q17, .ref q26, .null, .null, .null, .long 0, .int 0]) C hN ncl6 dX6_init_37 (ktb2 53 (by decide +kernel) (by decide +kernel)) ⟨by decide, Nat.le_of_ble_eq_true rfl, rfl, rfl⟩ rfl rfl ?_
  refine nW_eq (ws' := (a, .inr (6, [.null, .ref q8, .ref q17, .ref q26, .ref q35, .null, .null, .long 0, .int 0])) :: ([] ++ [(q8, .inl ((nGof B).2.1.1, 301, .inl (fun _ => Int32.ofInt 0)))] ++ [(q17, .inl ((nGof B).2.1.1, 1800, .inl (fun _ => Int32.ofInt 0)))] ++ [(q26, .inl ((nGof B).2.1.1, 300, .inl (fun _ => Int32.ofInt 0)))] ++ [(q35, .inl ((nGof B).2.1.1, 300, .inl (fun _ => Int32.ofInt 0)))])) rfl ?_
  refine n_aload C 0 dX6_init_40 rfl ?_
  refine n_sipush (v := 300) C dX6_init_41 rfl ?_
  refine n_newi (N := 300) (k' := 5) (n' := 3001) C dX6_init_44 w_arr_int ⟨by decide, by decide, by decide⟩ ⟨rfl, rfl, by decide, by decide⟩ (fun q44 => ?_)
  refine n_putF (j := 5) (fs := [.null, .ref q8, .ref q17, .ref q26, .ref q35, .null, .null, .long 0, .int 0]) C hN ncl6 dX6_init_46 (ktb2 54 (by decide +kernel) (by decide +kernel)) ⟨by decide, Nat.le_of_ble_eq_true rfl, rfl, rfl⟩ rfl rfl ?_
  refine nW_eq (ws' := (a, .inr (6, [.null, .ref q8, .ref q17, .ref q26, .ref q35, .ref q44, .null, .long 0, .int 0])) :: ([] ++ [(q8, .inl ((nGof B).2.1.1, 301, .inl (fun _ => Int32.ofInt 0)))] ++ [(q17, .inl ((nGof B).2.1.1, 1800, .inl (fun _ => Int32.ofInt 0)))] ++ [(q26, .inl ((nGof B).2.1.1, 300, .inl (fun _ => Int32.ofInt 0)))] ++ [(q35, .inl ((nGof B).2.1.1, 300, .inl (fun _ => Int32.ofInt 0)))] ++ [(q44, .inl ((nGof B).2.1.1, 300, .inl (fun _ => Int32.ofInt 0)))])) rfl ?_
  refine n_aload C 0 dX6_init_49 rfl ?_
  refine n_sipush (v := 300) C dX6_init_50 rfl ?_
  refine n_newi (N := 300) (k' := 6) (n' := 3301) C dX6_init_53 w_arr_int ⟨by decide, by decide, by decide⟩ ⟨rfl, rfl, by decide, by decide⟩ (fun q53 => ?_)
  refine n_putF (j := 6) (fs := [.null, .ref q8, .ref q17, .ref q26, .ref q35, .ref q44, .null, .long 0, .int 0]) C hN ncl6 dX6_init_55 (ktb2 55 (by decide +kernel) (by decide +kernel)) ⟨by decide, Nat.le_of_ble_eq_true rfl, rfl, rfl⟩ rfl rfl ?_
  refine nW_eq (ws' := (a, .inr (6, [.null, .ref q8, .ref q17, .ref q26, .ref q35, .ref q44, .ref q53, .long 0, .int 0])) :: ([] ++ [(q8, .inl ((nGof B).2.1.1, 301, .inl (fun _ => Int32.ofInt 0)))] ++ [(q17, .inl ((nGof B).2.1.1, 1800, .inl (fun _ => Int32.ofInt 0)))] ++ [(q26, .inl ((nGof B).2.1.1, 300, .inl (fun _ => Int32.ofInt 0)))] ++ [(q35, .inl ((nGof B).2.1.1, 300, .inl (fun _ => Int32.ofInt 0)))] ++ [(q44, .inl ((nGof B).2.1.1, 300, .inl (fun _ => Int32.ofInt 0)))] ++ [(q53, .inl ((nGof B).2.1.1, 300, .inl (fun _ => Int32.ofInt 0)))])) rfl ?_
  refine n_aload C 0 dX6_init_58 rfl ?_
  refine n_aload C 1 dX6_init_59 rfl ?_
  refine n_putF (j := 0) (fs := [.null, .ref q8, .ref q17, .ref q26, .ref q35, .ref q44, .ref q53, .long 0, .int 0]) C hN ncl6 dX6_init_60 (ktb2 49 (by decide +kernel) (by decide +kernel)) ⟨by decide, Nat.le_of_ble_eq_true rfl, rfl, rfl⟩ rfl rfl ?_
  refine nW_eq (ws' := (a, .inr (6, [.ref w0, .ref q8, .ref q17, .ref q26, .ref q35, .ref q44, .ref q53, .long 0, .int 0])) :: ([] ++ [(q8, .inl ((nGof B).2.1.1, 301, .inl (fun _ => Int32.ofInt 0)))] ++ [(q17, .inl ((nGof B).2.1.1, 1800, .inl (fun _ => Int32.ofInt 0)))] ++ [(q26, .inl ((nGof B).2.1.1, 300, .inl (fun _ => Int32.ofInt 0)))] ++ [(q35, .inl ((nGof B).2.1.1, 300, .inl (fun _ => Int32.ofInt 0)))] ++ [(q44, .inl ((nGof B).2.1.1, 300, .inl (fun _ => Int32.ofInt 0)))] ++ [(q53, .inl ((nGof B).2.1.1, 300, .inl (fun _ => Int32.ofInt 0)))])) rfl ?_
  exact hE [q8, q17, q26, q35, q44, q53] _ _ dX6_init_63)
def nF_0 (g : kG) (av : List Value) (a : Nat) (qs : List Nat) : va_W := [(a, .inr (0, [(av.getD 0 .null), .ref (qs.getD 0 0), .ref (qs.getD 1 0), .ref (qs.getD 2 0)]))] ++ [((qs.getD 0 0), .inl ((g).2.1.1, 300, .inl (fun _ => Int32.ofInt 0)))] ++ [((qs.getD 1 0), .inl ((g).2.1.1, 300, .inl (fun _ => Int32.ofInt 0)))] ++ [((qs.getD 2 0), .inl ((g).2.1.2.1, 300, .inl (fun _ => Int32.ofInt 0)))]
set_option maxRecDepth 100000 in
set_option maxHeartbeats 4000000 in
theorem nc_0 : nCon yX0_init cX0_init 2 { frames := 1, cells := 3, slots := 900, locals := 12 } 0 (nDef 4 tyX0) 3 900 (fun av => ∃ w0, av = [.ref w0]) nF_0 := nCon_of (by decide +kernel) rfl (by
  rintro a av ⟨w0, rfl⟩
  exact Nat.le_of_ble_eq_true rfl) (by
  rintro B a av ⟨w0, rfl⟩ C hN hE
  refine nW_eq (ws' := (a, .inr (0, [.null, .null, .null, .null])) :: ([])) rfl ?_
  refine n_aload C 0 dX0_init_0 rfl ?_
  refine n_objInit C dX0_init_1 ⟨(ktb2 82 (by decide +kernel) (by decide +kernel)), w_obj⟩ ⟨by decide, by decide⟩ ?_
  refine n_aload C 0 dX0_init_4 rfl ?_
  refine n_sipush (v := 300) C dX0_init_5 rfl ?_
  refine n_newi (N := 300) (k' := 1) (n' := 300) C dX0_init_8 w_arr_int ⟨by decide, by decide, by decide⟩ ⟨rfl, rfl, by decide, by decide⟩ (fun q8 => ?_)
  refine n_putF (j := 1) (fs := [.null, .null, .null, .null]) C hN ncl0 dX0_init_10 (ktb2 84 (by decide +kernel) (by decide +kernel)) ⟨by decide, Nat.le_of_ble_eq_true rfl, rfl, rfl⟩ rfl rfl ?_
  refine nW_eq (ws' := (a, .inr (0, [.null, .ref q8, .null, .null])) :: ([] ++ [(q8, .inl ((nGof B).2.1.1, 300, .inl (fun _ => Int32.ofInt 0)))])) rfl ?_
  refine n_aload C 0 dX0_init_13 rfl ?_
  refine n_sipush (v := 300) C dX0_init_14 rfl ?_
  refine n_newi (N := 300) (k' := 2) (n' := 600) C dX0_init_17 w_arr_int ⟨by decide, by decide, by decide⟩ ⟨rfl, rfl, by decide, by decide⟩ (fun q17 => ?_)
  refine n_putF (j := 2) (fs := [.null, .ref q8, .null, .null]) C hN ncl0 dX0_init_19 (ktb2 85 (by decide +kernel) (by decide +kernel)) ⟨by decide, Nat.le_of_ble_eq_true rfl, rfl, rfl⟩ rfl rfl ?_
  refine nW_eq (ws' := (a, .inr (0, [.null, .ref q8, .ref q17, .null])) :: ([] ++ [(q8, .inl ((nGof B).2.1.1, 300, .inl (fun _ => Int32.ofInt 0)))] ++ [(q17, .inl ((nGof B).2.1.1, 300, .inl (fun _ => Int32.ofInt 0)))])) rfl ?_
  refine n_aload C 0 dX0_init_22 rfl ?_
  refine n_sipush (v := 300) C dX0_init_23 rfl ?_
  refine n_newb (N := 300) (k' := 3) (n' := 900) C dX0_init_26 w_arr_boolean ⟨by decide, by decide, by decide⟩ ⟨rfl, rfl, by decide, by decide⟩ (fun q26 => ?_)
  refine n_putF (j := 3) (fs := [.null, .ref q8, .ref q17, .null]) C hN ncl0 dX0_init_28 (ktb2 86 (by decide +kernel) (by decide +kernel)) ⟨by decide, Nat.le_of_ble_eq_true rfl, rfl, rfl⟩ rfl rfl ?_
  refine nW_eq (ws' := (a, .inr (0, [.null, .ref q8, .ref q17, .ref q26])) :: ([] ++ [(q8, .inl ((nGof B).2.1.1, 300, .inl (fun _ => Int32.ofInt 0)))] ++ [(q17, .inl ((nGof B).2.1.1, 300, .inl (fun _ => Int32.ofInt 0)))] ++ [(q26, .inl ((nGof B).2.1.2.1, 300, .inl (fun _ => Int32.ofInt 0)))])) rfl ?_
  refine n_aload C 0 dX0_init_31 rfl ?_
  refine n_aload C 1 dX0_init_32 rfl ?_
  refine n_putF (j := 0) (fs := [.null, .ref q8, .ref q17, .ref q26]) C hN ncl0 dX0_init_33 (ktb2 83 (by decide +kernel) (by decide +kernel)) ⟨by decide, Nat.le_of_ble_eq_true rfl, rfl, rfl⟩ rfl rfl ?_
  refine nW_eq (ws' := (a, .inr (0, [.ref w0, .ref q8, .ref q17, .ref q26])) :: ([] ++ [(q8, .inl ((nGof B).2.1.1, 300, .inl (fun _ => Int32.ofInt 0)))] ++ [(q17, .inl ((nGof B).2.1.1, 300, .inl (fun _ => Int32.ofInt 0)))] ++ [(q26, .inl ((nGof B).2.1.2.1, 300, .inl (fun _ => Int32.ofInt 0)))])) rfl ?_
  exact hE [q8, q17, q26] _ _ dX0_init_36)
def nF_2 (g : kG) (av : List Value) (a : Nat) (qs : List Nat) : va_W := [(a, .inr (2, [.int 0, .int 0, .int 0, .ref (qs.getD 0 0), .ref (qs.getD 1 0), .ref (qs.getD 2 0), .ref (qs.getD 3 0)]))] ++ [((qs.getD 0 0), .inl ((g).2.1.1, 300, .inl (fun _ => Int32.ofInt 0)))] ++ [((qs.getD 1 0), .inl ((g).2.1.1, 300, .inl (fun _ => Int32.ofInt 0)))] ++ [((qs.getD 2 0), .inl ((g).2.1.1, 300, .inl (fun _ => Int32.ofInt 0)))] ++ [((qs.getD 3 0), .inl ((g).2.1.2.1, 300, .inl (fun _ => Int32.ofInt 0)))]
set_option maxRecDepth 100000 in
set_option maxHeartbeats 4000000 in
theorem nc_2 : nCon yX2_init cX2_init 1 { frames := 1, cells := 4, slots := 1200, locals := 12 } 2 (nDef 7 tyX2) 4 1200 (fun av => av = []) nF_2 := nCon_of (by decide +kernel) rfl (by
  rintro a av rfl
  exact Nat.le_of_ble_eq_true rfl) (by
  rintro B a av rfl C hN hE
  refine nW_eq (ws' := (a, .inr (2, [.int 0, .int 0, .int 0, .null, .null, .null, .null])) :: ([])) rfl ?_
  refine n_aload C 0 dX2_init_0 rfl ?_
  refine n_objInit C dX2_init_1 ⟨(ktb2 101 (by decide +kernel) (by decide +kernel)), w_obj⟩ ⟨by decide, by decide⟩ ?_
  refine n_aload C 0 dX2_init_4 rfl ?_
  refine n_sipush (v := 300) C dX2_init_5 rfl ?_
  refine n_newi (N := 300) (k' := 1) (n' := 300) C dX2_init_8 w_arr_int ⟨by decide, by decide, by decide⟩ ⟨rfl, rfl, by decide, by decide⟩ (fun q8 => ?_)
  refine n_putF (j := 3) (fs := [.int 0, .int 0, .int 0, .null, .null, .null, .null]) C hN ncl2 dX2_init_10 (ktb2 109 (by decide +kernel) (by decide +kernel)) ⟨by decide, Nat.le_of_ble_eq_true rfl, rfl, rfl⟩ rfl rfl ?_
  refine nW_eq (ws' := (a, .inr (2, [.int 0, .int 0, .int 0, .ref q8, .null, .null, .null])) :: ([] ++ [(q8, .inl ((nGof B).2.1.1, 300, .inl (fun _ => Int32.ofInt 0)))])) rfl ?_
  refine n_aload C 0 dX2_init_13 rfl ?_
  refine n_sipush (v := 300) C dX2_init_14 rfl ?_
  refine n_newi (N := 300) (k' := 2) (n' := 600) C dX2_init_17 w_arr_int ⟨by decide, by decide, by decide⟩ ⟨rfl, rfl, by decide, by decide⟩ (fun q17 => ?_)
  refine n_putF (j := 4) (fs := [.int 0, .int 0, .int 0, .ref q8, .null, .null, .null]) C hN ncl2 dX2_init_19 (ktb2 110 (by decide +kernel) (by decide +kernel)) ⟨by decide, Nat.le_of_ble_eq_true rfl, rfl, rfl⟩ rfl rfl ?_
  refine nW_eq (ws' := (a, .inr (2, [.int 0, .int 0, .int 0, .ref q8, .ref q17, .null, .null])) :: ([] ++ [(q8, .inl ((nGof B).2.1.1, 300, .inl (fun _ => Int32.ofInt 0)))] ++ [(q17, .inl ((nGof B).2.1.1, 300, .inl (fun _ => Int32.ofInt 0)))])) rfl ?_
  refine n_aload C 0 dX2_init_22 rfl ?_
  refine n_sipush (v := 300) C dX2_init_23 rfl ?_
  refine n_newi (N := 300) (k' := 3) (n' := 900) C dX2_init_26 w_arr_int ⟨by decide, by decide, by decide⟩ ⟨rfl, rfl, by decide, by decide⟩ (fun q26 => ?_)
  refine n_putF (j := 5) (fs := [.int 0, .int 0, .int 0, .ref q8, .ref q17, .null, .null]) C hN ncl2 dX2_init_28 (ktb2 111 (by decide +kernel) (by decide +kernel)) ⟨by decide, Nat.le_of_ble_eq_true rfl, rfl, rfl⟩ rfl rfl ?_
  refine nW_eq (ws' := (a, .inr (2, [.int 0, .int 0, .int 0, .ref q8, .ref q17, .ref q26, .null])) :: ([] ++ [(q8, .inl ((nGof B).2.1.1, 300, .inl (fun _ => Int32.ofInt 0)))] ++ [(q17, .inl ((nGof B).2.1.1, 300, .inl (fun _ => Int32.ofInt 0)))] ++ [(q26, .inl ((nGof B).2.1.1, 300, .inl (fun _ => Int32.ofInt 0)))])) rfl ?_
  refine n_aload C 0 dX2_init_31 rfl ?_
  refine n_sipush (v := 300) C dX2_init_32 rfl ?_
  refine n_newb (N := 300) (k' := 4) (n' := 1200) C dX2_init_35 w_arr_boolean ⟨by decide, by decide, by decide⟩ ⟨rfl, rfl, by decide, by decide⟩ (fun q35 => ?_)
  refine n_putF (j := 6) (fs := [.int 0, .int 0, .int 0, .ref q8, .ref q17, .ref q26, .null]) C hN ncl2 dX2_init_37 (ktb2 112 (by decide +kernel) (by decide +kernel)) ⟨by decide, Nat.le_of_ble_eq_true rfl, rfl, rfl⟩ rfl rfl ?_
  refine nW_eq (ws' := (a, .inr (2, [.int 0, .int 0, .int 0, .ref q8, .ref q17, .ref q26, .ref q35])) :: ([] ++ [(q8, .inl ((nGof B).2.1.1, 300, .inl (fun _ => Int32.ofInt 0)))] ++ [(q17, .inl ((nGof B).2.1.1, 300, .inl (fun _ => Int32.ofInt 0)))] ++ [(q26, .inl ((nGof B).2.1.1, 300, .inl (fun _ => Int32.ofInt 0)))] ++ [(q35, .inl ((nGof B).2.1.2.1, 300, .inl (fun _ => Int32.ofInt 0)))])) rfl ?_
  exact hE [q8, q17, q26, q35] _ _ dX2_init_40)
def nF_4 (g : kG) (av : List Value) (a : Nat) (qs : List Nat) : va_W := [(a, .inr (4, [.int 0, (av.getD 0 .null), (av.getD 1 .null), .ref (qs.getD 0 0), .ref (qs.getD 1 0), .ref (qs.getD 2 0), .ref (qs.getD 3 0), .ref (qs.getD 4 0), .ref (qs.getD 5 0)]))] ++ [((qs.getD 0 0), .inl ((g).2.1.1, 60, .inl (fun _ => Int32.ofInt 0)))] ++ [((qs.getD 1 0), .inl ((g).2.1.2.1, 60, .inl (fun _ => Int32.ofInt 0)))] ++ [((qs.getD 2 0), .inl ((g).2.1.1, 60, .inl (fun _ => Int32.ofInt 0)))] ++ [((qs.getD 3 0), .inl ((g).2.1.1, 60, .inl (fun _ => Int32.ofInt 0)))] ++ nRow (g) (qs.getD 4 0) 5000 5000 ++ nRow (g) (qs.getD 5 0) 60 60
set_option maxRecDepth 100000 in
set_option maxHeartbeats 4000000 in
theorem nc_4 : nCon yX4_init cX4_init 3 { frames := 1, cells := 6, slots := 5300, locals := 23 } 4 (nDef 9 tyX4) 6 5300 (fun av => ∃ w0 w1, av = [.ref w0, .ref w1]) nF_4 := nCon_of (by decide +kernel) rfl (by
  rintro a av ⟨w0, w1, rfl⟩
  exact Nat.le_of_ble_eq_true rfl) (by
  rintro B a av ⟨w0, w1, rfl⟩ C hN hE
  refine nW_eq (ws' := (a, .inr (4, [.int 0, .null, .null, .null, .null, .null, .null, .null, .null])) :: ([])) rfl ?_
  refine n_aload C 0 dX4_init_0 rfl ?_
  refine n_objInit C dX4_init_1 ⟨(ktb2 133 (by decide +kernel) (by decide +kernel)), w_obj⟩ ⟨by decide, by decide⟩ ?_
  refine n_aload C 0 dX4_init_4 rfl ?_
  refine n_bipush (v := 60) C dX4_init_5 rfl ?_
  refine n_newi (N := 60) (k' := 1) (n' := 60) C dX4_init_7 w_arr_int ⟨by decide, by decide, by decide⟩ ⟨rfl, rfl, by decide, by decide⟩ (fun q7 => ?_)
  refine n_putF (j := 3) (fs := [.int 0, .null, .null, .null, .null, .null, .null, .null, .null]) C hN ncl4 dX4_init_9 (ktb2 141 (by decide +kernel) (by decide +kernel)) ⟨by decide, Nat.le_of_ble_eq_true rfl, rfl, rfl⟩ rfl rfl ?_
  refine nW_eq (ws' := (a, .inr (4, [.int 0, .null, .null, .ref q7, .null, .null, .null, .null, .null])) :: ([] ++ [(q7, .inl ((nGof B).2.1.1, 60, .inl (fun _ => Int32.ofInt 0)))])) rfl ?_
  refine n_aload C 0 dX4_init_12 rfl ?_
  refine n_bipush (v := 60) C dX4_init_13 rfl ?_
  refine n_newb (N := 60) (k' := 2) (n' := 120) C dX4_init_15 w_arr_boolean ⟨by decide, by decide, by decide⟩ ⟨rfl, rfl, by decide, by decide⟩ (fun q15 => ?_)
  refine n_putF (j := 4) (fs := [.int 0, .null, .null, .ref q7, .null, .null, .null, .null, .null]) C hN ncl4 dX4_init_17 (ktb2 142 (by decide +kernel) (by decide +kernel)) ⟨by decide, Nat.le_of_ble_eq_true rfl, rfl, rfl⟩ rfl rfl ?_
  refine nW_eq (ws' := (a, .inr (4, [.int 0, .null, .null, .ref q7, .ref q15, .null, .null, .null, .null])) :: ([] ++ [(q7, .inl ((nGof B).2.1.1, 60, .inl (fun _ => Int32.ofInt 0)))] ++ [(q15, .inl ((nGof B).2.1.2.1, 60, .inl (fun _ => Int32.ofInt 0)))])) rfl ?_
  refine n_aload C 0 dX4_init_20 rfl ?_
  refine n_bipush (v := 60) C dX4_init_21 rfl ?_
  refine n_newi (N := 60) (k' := 3) (n' := 180) C dX4_init_23 w_arr_int ⟨by decide, by decide, by decide⟩ ⟨rfl, rfl, by decide, by decide⟩ (fun q23 => ?_)
  refine n_putF (j := 5) (fs := [.int 0, .null, .null, .ref q7, .ref q15, .null, .null, .null, .null]) C hN ncl4 dX4_init_25 (ktb2 143 (by decide +kernel) (by decide +kernel)) ⟨by decide, Nat.le_of_ble_eq_true rfl, rfl, rfl⟩ rfl rfl ?_
  refine nW_eq (ws' := (a, .inr (4, [.int 0, .null, .null, .ref q7, .ref q15, .ref q23, .null, .null, .null])) :: ([] ++ [(q7, .inl ((nGof B).2.1.1, 60, .inl (fun _ => Int32.ofInt 0)))] ++ [(q15, .inl ((nGof B).2.1.2.1, 60, .inl (fun _ => Int32.ofInt 0)))] ++ [(q23, .inl ((nGof B).2.1.1, 60, .inl (fun _ => Int32.ofInt 0)))])) rfl ?_
  refine n_aload C 0 dX4_init_28 rfl ?_
  refine n_bipush (v := 60) C dX4_init_29 rfl ?_
  refine n_newi (N := 60) (k' := 4) (n' := 240) C dX4_init_31 w_arr_int ⟨by decide, by decide, by decide⟩ ⟨rfl, rfl, by decide, by decide⟩ (fun q31 => ?_)
  refine n_putF (j := 6) (fs := [.int 0, .null, .null, .ref q7, .ref q15, .ref q23, .null, .null, .null]) C hN ncl4 dX4_init_33 (ktb2 144 (by decide +kernel) (by decide +kernel)) ⟨by decide, Nat.le_of_ble_eq_true rfl, rfl, rfl⟩ rfl rfl ?_
  refine nW_eq (ws' := (a, .inr (4, [.int 0, .null, .null, .ref q7, .ref q15, .ref q23, .ref q31, .null, .null])) :: ([] ++ [(q7, .inl ((nGof B).2.1.1, 60, .inl (fun _ => Int32.ofInt 0)))] ++ [(q15, .inl ((nGof B).2.1.2.1, 60, .inl (fun _ => Int32.ofInt 0)))] ++ [(q23, .inl ((nGof B).2.1.1, 60, .inl (fun _ => Int32.ofInt 0)))] ++ [(q31, .inl ((nGof B).2.1.1, 60, .inl (fun _ => Int32.ofInt 0)))])) rfl ?_
  refine n_aload C 0 dX4_init_36 rfl ?_
  refine n_sipush (v := 5000) C dX4_init_37 rfl ?_
  refine n_newi (N := 5000) (k' := 5) (n' := 5240) C dX4_init_40 w_arr_int ⟨by decide, by decide, by decide⟩ ⟨rfl, rfl, by decide, by decide⟩ (fun q40 => ?_)
  refine n_putF (j := 7) (fs := [.int 0, .null, .null, .ref q7, .ref q15, .ref q23, .ref q31, .null, .null]) C hN ncl4 dX4_init_42 (ktb2 145 (by decide +kernel) (by decide +kernel)) ⟨by decide, Nat.le_of_ble_eq_true rfl, rfl, rfl⟩ rfl rfl ?_
  refine nW_eq (ws' := (a, .inr (4, [.int 0, .null, .null, .ref q7, .ref q15, .ref q23, .ref q31, .ref q40, .null])) :: ([] ++ [(q7, .inl ((nGof B).2.1.1, 60, .inl (fun _ => Int32.ofInt 0)))] ++ [(q15, .inl ((nGof B).2.1.2.1, 60, .inl (fun _ => Int32.ofInt 0)))] ++ [(q23, .inl ((nGof B).2.1.1, 60, .inl (fun _ => Int32.ofInt 0)))] ++ [(q31, .inl ((nGof B).2.1.1, 60, .inl (fun _ => Int32.ofInt 0)))] ++ [(q40, .inl ((nGof B).2.1.1, 5000, .inl (fun _ => Int32.ofInt 0)))])) rfl ?_
  refine n_aload C 0 dX4_init_45 rfl ?_
  refine n_bipush (v := 60) C dX4_init_46 rfl ?_
  refine n_newi (N := 60) (k' := 6) (n' := 5300) C dX4_init_48 w_arr_int ⟨by decide, by decide, by decide⟩ ⟨rfl, rfl, by decide, by decide⟩ (fun q48 => ?_)
  refine n_putF (j := 8) (fs := [.int 0, .null, .null, .ref q7, .ref q15, .ref q23, .ref q31, .ref q40, .null]) C hN ncl4 dX4_init_50 (ktb2 146 (by decide +kernel) (by decide +kernel)) ⟨by decide, Nat.le_of_ble_eq_true rfl, rfl, rfl⟩ rfl rfl ?_
  refine nW_eq (ws' := (a, .inr (4, [.int 0, .null, .null, .ref q7, .ref q15, .ref q23, .ref q31, .ref q40, .ref q48])) :: ([] ++ [(q7, .inl ((nGof B).2.1.1, 60, .inl (fun _ => Int32.ofInt 0)))] ++ [(q15, .inl ((nGof B).2.1.2.1, 60, .inl (fun _ => Int32.ofInt 0)))] ++ [(q23, .inl ((nGof B).2.1.1, 60, .inl (fun _ => Int32.ofInt 0)))] ++ [(q31, .inl ((nGof B).2.1.1, 60, .inl (fun _ => Int32.ofInt 0)))] ++ [(q40, .inl ((nGof B).2.1.1, 5000, .inl (fun _ => Int32.ofInt 0)))] ++ [(q48, .inl ((nGof B).2.1.1, 60, .inl (fun _ => Int32.ofInt 0)))])) rfl ?_
  refine n_aload C 0 dX4_init_53 rfl ?_
  refine n_aload C 1 dX4_init_54 rfl ?_
  refine n_putF (j := 1) (fs := [.int 0, .null, .null, .ref q7, .ref q15, .ref q23, .ref q31, .ref q40, .ref q48]) C hN ncl4 dX4_init_55 (ktb2 139 (by decide +kernel) (by decide +kernel)) ⟨by decide, Nat.le_of_ble_eq_true rfl, rfl, rfl⟩ rfl rfl ?_
  refine nW_eq (ws' := (a, .inr (4, [.int 0, .ref w0, .null, .ref q7, .ref q15, .ref q23, .ref q31, .ref q40, .ref q48])) :: ([] ++ [(q7, .inl ((nGof B).2.1.1, 60, .inl (fun _ => Int32.ofInt 0)))] ++ [(q15, .inl ((nGof B).2.1.2.1, 60, .inl (fun _ => Int32.ofInt 0)))] ++ [(q23, .inl ((nGof B).2.1.1, 60, .inl (fun _ => Int32.ofInt 0)))] ++ [(q31, .inl ((nGof B).2.1.1, 60, .inl (fun _ => Int32.ofInt 0)))] ++ [(q40, .inl ((nGof B).2.1.1, 5000, .inl (fun _ => Int32.ofInt 0)))] ++ [(q48, .inl ((nGof B).2.1.1, 60, .inl (fun _ => Int32.ofInt 0)))])) rfl ?_
  refine n_aload C 0 dX4_init_58 rfl ?_
  refine n_aload C 2 dX4_init_59 rfl ?_
  refine n_putF (j := 2) (fs := [.int 0, .ref w0, .null, .ref q7, .ref q15, .ref q23, .ref q31, .ref q40, .ref q48]) C hN ncl4 dX4_init_60 (ktb2 140 (by decide +kernel) (by decide +kernel)) ⟨by decide, Nat.le_of_ble_eq_true rfl, rfl, rfl⟩ rfl rfl ?_
  refine nW_eq (ws' := (a, .inr (4, [.int 0, .ref w0, .ref w1, .ref q7, .ref q15, .ref q23, .ref q31, .ref q40, .ref q48])) :: ([] ++ [(q7, .inl ((nGof B).2.1.1, 60, .inl (fun _ => Int32.ofInt 0)))] ++ [(q15, .inl ((nGof B).2.1.2.1, 60, .inl (fun _ => Int32.ofInt 0)))] ++ [(q23, .inl ((nGof B).2.1.1, 60, .inl (fun _ => Int32.ofInt 0)))] ++ [(q31, .inl ((nGof B).2.1.1, 60, .inl (fun _ => Int32.ofInt 0)))] ++ [(q40, .inl ((nGof B).2.1.1, 5000, .inl (fun _ => Int32.ofInt 0)))] ++ [(q48, .inl ((nGof B).2.1.1, 60, .inl (fun _ => Int32.ofInt 0)))])) rfl ?_
  refine n_aload C 0 dX4_init_63 rfl ?_
  refine n_get (j := 7) (v := .ref q40) C ncl4 dX4_init_64 (ktb2 145 (by decide +kernel) (by decide +kernel)) (by decide) rfl ?_
  refine n_iconst (v := (-1)) C dX4_init_67 rfl ?_
  refine nW_eq (ws' := [(a, .inr (4, [.int 0, .ref w0, .ref w1, .ref q7, .ref q15, .ref q23, .ref q31, .ref q40, .ref q48]))] ++ [(q7, .inl ((nGof B).2.1.1, 60, .inl (fun _ => Int32.ofInt 0)))] ++ [(q15, .inl ((nGof B).2.1.2.1, 60, .inl (fun _ => Int32.ofInt 0)))] ++ [(q23, .inl ((nGof B).2.1.1, 60, .inl (fun _ => Int32.ofInt 0)))] ++ [(q31, .inl ((nGof B).2.1.1, 60, .inl (fun _ => Int32.ofInt 0)))] ++ [(q40, .inl ((nGof B).2.1.1, 5000, .inl (fun _ => Int32.ofInt 0)))] ++ [(q48, .inl ((nGof B).2.1.1, 60, .inl (fun _ => Int32.ofInt 0)))]) rfl ?_
  refine n_callFill (q := q40) (N := 5000) (j := 5) (isR := [0, 1, 2, 3, 4, 6]) (wr := [(a, .inr (4, [.int 0, .ref w0, .ref w1, .ref q7, .ref q15, .ref q23, .ref q31, .ref q40, .ref q48]))] ++ [(q7, .inl ((nGof B).2.1.1, 60, .inl (fun _ => Int32.ofInt 0)))] ++ [(q15, .inl ((nGof B).2.1.2.1, 60, .inl (fun _ => Int32.ofInt 0)))] ++ [(q23, .inl ((nGof B).2.1.1, 60, .inl (fun _ => Int32.ofInt 0)))] ++ [(q31, .inl ((nGof B).2.1.1, 60, .inl (fun _ => Int32.ofInt 0)))] ++ [(q48, .inl ((nGof B).2.1.1, 60, .inl (fun _ => Int32.ofInt 0)))]) C (by decide) dX4_init_68 (ktb2 134 (by decide +kernel) (by decide +kernel)) ms_fill ⟨by decide, by decide⟩ ⟨by decide, by decide⟩ rfl rfl (by decide) (by decide) (Nat.le_of_ble_eq_true rfl) ?_
  refine nW_eq (ws' := (a, .inr (4, [.int 0, .ref w0, .ref w1, .ref q7, .ref q15, .ref q23, .ref q31, .ref q40, .ref q48])) :: ([] ++ [(q7, .inl ((nGof B).2.1.1, 60, .inl (fun _ => Int32.ofInt 0)))] ++ [(q15, .inl ((nGof B).2.1.2.1, 60, .inl (fun _ => Int32.ofInt 0)))] ++ [(q23, .inl ((nGof B).2.1.1, 60, .inl (fun _ => Int32.ofInt 0)))] ++ [(q31, .inl ((nGof B).2.1.1, 60, .inl (fun _ => Int32.ofInt 0)))] ++ [(q48, .inl ((nGof B).2.1.1, 60, .inl (fun _ => Int32.ofInt 0)))] ++ nRow (nGof B) q40 5000 5000)) rfl ?_
  refine n_aload C 0 dX4_init_71 rfl ?_
  refine n_get (j := 8) (v := .ref q48) C ncl4 dX4_init_72 (ktb2 146 (by decide +kernel) (by decide +kernel)) (by decide) rfl ?_
  refine n_iconst (v := (-1)) C dX4_init_75 rfl ?_
  refine nW_eq (ws' := [(a, .inr (4, [.int 0, .ref w0, .ref w1, .ref q7, .ref q15, .ref q23, .ref q31, .ref q40, .ref q48]))] ++ [(q7, .inl ((nGof B).2.1.1, 60, .inl (fun _ => Int32.ofInt 0)))] ++ [(q15, .inl ((nGof B).2.1.2.1, 60, .inl (fun _ => Int32.ofInt 0)))] ++ [(q23, .inl ((nGof B).2.1.1, 60, .inl (fun _ => Int32.ofInt 0)))] ++ [(q31, .inl ((nGof B).2.1.1, 60, .inl (fun _ => Int32.ofInt 0)))] ++ [(q48, .inl ((nGof B).2.1.1, 60, .inl (fun _ => Int32.ofInt 0)))] ++ nRow (nGof B) q40 5000 5000) rfl ?_
  refine n_callFill (q := q48) (N := 60) (j := 5) (isR := [0, 1, 2, 3, 4, 6]) (wr := [(a, .inr (4, [.int 0, .ref w0, .ref w1, .ref q7, .ref q15, .ref q23, .ref q31, .ref q40, .ref q48]))] ++ [(q7, .inl ((nGof B).2.1.1, 60, .inl (fun _ => Int32.ofInt 0)))] ++ [(q15, .inl ((nGof B).2.1.2.1, 60, .inl (fun _ => Int32.ofInt 0)))] ++ [(q23, .inl ((nGof B).2.1.1, 60, .inl (fun _ => Int32.ofInt 0)))] ++ [(q31, .inl ((nGof B).2.1.1, 60, .inl (fun _ => Int32.ofInt 0)))] ++ nRow (nGof B) q40 5000 5000) C (by decide) dX4_init_76 (ktb2 134 (by decide +kernel) (by decide +kernel)) ms_fill ⟨by decide, by decide⟩ ⟨by decide, by decide⟩ rfl rfl (by decide) (by decide) (Nat.le_of_ble_eq_true rfl) ?_
  refine nW_eq (ws' := (a, .inr (4, [.int 0, .ref w0, .ref w1, .ref q7, .ref q15, .ref q23, .ref q31, .ref q40, .ref q48])) :: ([] ++ [(q7, .inl ((nGof B).2.1.1, 60, .inl (fun _ => Int32.ofInt 0)))] ++ [(q15, .inl ((nGof B).2.1.2.1, 60, .inl (fun _ => Int32.ofInt 0)))] ++ [(q23, .inl ((nGof B).2.1.1, 60, .inl (fun _ => Int32.ofInt 0)))] ++ [(q31, .inl ((nGof B).2.1.1, 60, .inl (fun _ => Int32.ofInt 0)))] ++ nRow (nGof B) q40 5000 5000 ++ nRow (nGof B) q48 60 60)) rfl ?_
  exact hE [q7, q15, q23, q31, q40, q48] _ _ dX4_init_79)
