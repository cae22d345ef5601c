/-! UTIL: Arrays.fill, leaveOut -/
def kfill (σ : kS) (a n : Nat) (v : Int) : kS := fun o k => if o = a ∧ k < n then v else σ o k
theorem kfill_step {σ : kS} {a i : Nat} {v : Int} : kup (kfill σ a i v) a i v = kfill σ a (i + 1) v := by
  funext o k
  unfold kup kfill
  by_cases h : o = a
  · by_cases h1 : k = i
    · simp [h, h1]
    · by_cases h2 : k < i
      · simp [h, h1, h2, show k < i + 1 by omega]
      · simp [h, h1, h2, show ¬ k < i + 1 by omega]
  · simp [h]
theorem fill_ok {a n : Nat} {v : Int} {σ : kS} (hn : n < 2147483648) (hf : kFA (.inr (.inl a)) 0 = some (a, n)) (hl : klen (.inr (.inl a)) = some n) :
    wpF F_Ar_fill [.inr (.inl a), .inl v] σ (fun r σ' => r = none ∧ σ' = kfill σ a n v) := by
  unfold F_Ar_fill
  rw [wpF_kF]
  refine ⟨rfl, rfl, ?_⟩
  unfold s_Ar_fill
  simp [wpS_skip, wpS_break, wpS_cont, wpS_retV, wpS_throw, wpS_seq, wpS_if, wpS_trunc, wpS_let, wpS_inc, wpS_put, wpS_putOp, wpS_ast0, wpS_ast1, wpS_astOp, wpS_E, wpS_call, wpS_callS, wpS_ret, kThen_N, kThen_B, kThen_C, kThen_R, kThen_T, kNext_N, kNext_C, kNext_B, kNext_R, wpE_K, wpE_KL, wpE_I, wpE_R, wpE_J, wpE_bin, wpE_ladd, wpE_i2l, wpE_get, wpE_ald0, wpE_ald1, wpE_if, wpE_max, wpE_min, wpE_len, wpA_nil, wpA_snoc, wpE_call, wpE_callS, wpC_C, wpC_L, wpC_Z, wpC_and, wpC_or, wpC_not, wpC_if, kck_iff, kck64_iff, kAdd_iff, kSub_iff, kMul_iff, kDiv_iff, kRem_iff, kAnd_iff, kcmp_0, kcmp_1, kcmp_2, kcmp_3, kcmp_4, kcmp_5, rR_inj, ktag, kset, hl]
  unfold l_Ar_fill_1
  refine wpS.mono (wpS_for (Q := fun r L s => r = rN ∧ s = kfill σ a n v) (fun m L s => ∃ i : Nat, i ≤ n ∧ m = n - i ∧ L = [some (.inr (.inl a)), some (.inl v), some (.inl (i : Int)), some (.inl (n : Int))] ∧ s = kfill σ a i v) ?_ n _ _ ⟨0, by omega, by omega, rfl, ?_⟩) ?_
  · rintro m L s ⟨i, hi, rfl, rfl, rfl⟩
    simp [wpS_skip, wpS_break, wpS_cont, wpS_retV, wpS_throw, wpS_seq, wpS_if, wpS_trunc, wpS_let, wpS_inc, wpS_put, wpS_putOp, wpS_ast0, wpS_ast1, wpS_astOp, wpS_E, wpS_call, wpS_callS, wpS_ret, kThen_N, kThen_B, kThen_C, kThen_R, kThen_T, kNext_N, kNext_C, kNext_B, kNext_R, wpE_K, wpE_KL, wpE_I, wpE_R, wpE_J, wpE_bin, wpE_ladd, wpE_i2l, wpE_get, wpE_ald0, wpE_ald1, wpE_if, wpE_max, wpE_min, wpE_len, wpA_nil, wpA_snoc, wpE_call, wpE_callS, wpC_C, wpC_L, wpC_Z, wpC_and, wpC_or, wpC_not, wpC_if, kck_iff, kck64_iff, kAdd_iff, kSub_iff, kMul_iff, kDiv_iff, kRem_iff, kAnd_iff, kcmp_0, kcmp_1, kcmp_2, kcmp_3, kcmp_4, kcmp_5, rR_inj, ktag, kset, hf]
    by_cases h : i < n
    · simp [h, wpS_skip, wpS_break, wpS_cont, wpS_retV, wpS_throw, wpS_seq, wpS_if, wpS_trunc, wpS_let, wpS_inc, wpS_put, wpS_putOp, wpS_ast0, wpS_ast1, wpS_astOp, wpS_E, wpS_call, wpS_callS, wpS_ret, kThen_N, kThen_B, kThen_C, kThen_R, kThen_T, kNext_N, kNext_C, kNext_B, kNext_R, wpE_K, wpE_KL, wpE_I, wpE_R, wpE_J, wpE_bin, wpE_ladd, wpE_i2l, wpE_get, wpE_ald0, wpE_ald1, wpE_if, wpE_max, wpE_min, wpE_len, wpA_nil, wpA_snoc, wpE_call, wpE_callS, wpC_C, wpC_L, wpC_Z, wpC_and, wpC_or, wpC_not, wpC_if, kck_iff, kck64_iff, kAdd_iff, kSub_iff, kMul_iff, kDiv_iff, kRem_iff, kAnd_iff, kcmp_0, kcmp_1, kcmp_2, kcmp_3, kcmp_4, kcmp_5, rR_inj, ktag, kset, hf]
      refine ⟨by omega, ?_⟩
      exact ⟨n - (i + 1), by omega, i + 1, by omega, rfl, by simp, kfill_step⟩
    · have : i = n := by omega
      subst this
      simp
  · funext o k
    simp [kfill]
  · rintro r L s ⟨rfl, rfl⟩
    simp [wpS_skip, wpS_break, wpS_cont, wpS_retV, wpS_throw, wpS_seq, wpS_if, wpS_trunc, wpS_let, wpS_inc, wpS_put, wpS_putOp, wpS_ast0, wpS_ast1, wpS_astOp, wpS_E, wpS_call, wpS_callS, wpS_ret, kThen_N, kThen_B, kThen_C, kThen_R, kThen_T, kNext_N, kNext_C, kNext_B, kNext_R, wpE_K, wpE_KL, wpE_I, wpE_R, wpE_J, wpE_bin, wpE_ladd, wpE_i2l, wpE_get, wpE_ald0, wpE_ald1, wpE_if, wpE_max, wpE_min, wpE_len, wpA_nil, wpA_snoc, wpE_call, wpE_callS, wpC_C, wpC_L, wpC_Z, wpC_and, wpC_or, wpC_not, wpC_if, kck_iff, kck64_iff, kAdd_iff, kSub_iff, kMul_iff, kDiv_iff, kRem_iff, kAnd_iff, kcmp_0, kcmp_1, kcmp_2, kcmp_3, kcmp_4, kcmp_5, rR_inj, ktag, kset, kN]
