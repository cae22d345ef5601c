/-! THE REFERENCE'S WALK 1: the half-arcs at each node in a chain -/
/-- the reference's graph, as numbers: n nodes, c arcs there, their row li, their ends fs and sn -/
def Mg (σ : kS) (n c : Nat) (li fs sn : Nat → Nat) : Prop := σ 14 1 = n ∧ σ 14 10 = c ∧ n ≤ 300 ∧ c ≤ 900 ∧
  (∀ k, k < c → σ 77 k = li k ∧ li k < 5000 ∧ σ 71 (li k) = fs (li k) ∧ σ 72 (li k) = sn (li k) ∧ fs (li k) < n ∧ sn (li k) < n) ∧ (∀ i j, i < c → j < c → li i = li j → i = j)
/-- does arc a count for a walk of this sort -/
def mcnt (σ : kS) (sort least without : Int) (a : Nat) : Prop := (a : Int) ≠ without ∧ ((sort = 0 ∧ σ 74 a ≠ 0 ∧ least ≤ σ 73 a) ∨ (sort ≠ 0 ∧ (sort < 4 ∨ σ 75 a = 0)))
/-- the chain of half-arcs from e on -/
def chn (σ : kS) : Int → List Nat → Prop
  | e, [] => e = -1
  | e, h :: t => e = (h : Int) ∧ h < 10000 ∧ chn σ (σ 90 h) t
theorem chn_kup {σ : kS} {i : Nat} {x : Int} : ∀ {l : List Nat} {e : Int}, i ∉ l → chn σ e l → chn (kup σ 90 i x) e l := by
  intro l
  induction l with
  | nil => intro e _ h; exact h
  | cons h t ih =>
    intro e hi hc
    obtain ⟨h1, h2, h3⟩ := hc
    refine ⟨h1, h2, ?_⟩
    have hne : ¬ h = i := fun q => hi (by rw [q]; exact List.mem_cons_self)
    have e1 : kup σ 90 i x 90 h = σ 90 h := by simp [kup, hne]
    rw [e1]
    exact ih (fun q => hi (List.mem_cons_of_mem _ q)) h3
theorem chn_other {σ : kS} {o i : Nat} {x : Int} (ho : o ≠ 90) : ∀ {l : List Nat} {e : Int}, chn σ e l → chn (kup σ o i x) e l := by
  intro l
  induction l with
  | nil => intro e h; exact h
  | cons h t ih =>
    intro e hc
    obtain ⟨h1, h2, h3⟩ := hc
    refine ⟨h1, h2, ?_⟩
    have e1 : kup σ o i x 90 h = σ 90 h := by simp [kup, ho.symm]
    rw [e1]
    exact ih h3
theorem wk1_ok {σ : kS} {n : Nat} {fr so le wi : Int} (hn : σ 14 1 = n) (h3 : n ≤ 300) :
    wpS l_Md_walk_1 [some (.inr (.inl 14)), some (.inl fr), some (.inl so), some (.inl le), some (.inl wi), some (.inl 0)] σ
      (fun r L s => r = rN ∧ L.take 5 = [some (.inr (.inl 14)), some (.inl fr), some (.inl so), some (.inl le), some (.inl wi)] ∧ (∀ o, o ≠ 85 → o ≠ 89 → s o = σ o) ∧ ∀ v, v < n → s 85 v = 0 ∧ s 89 v = -1) := by
  unfold l_Md_walk_1
  refine wpS_for (fun m L s => ∃ i : Nat, i ≤ n ∧ m = n - i ∧ L = [some (.inr (.inl 14)), some (.inl fr), some (.inl so), some (.inl le), some (.inl wi), some (.inl (i : Int))] ∧ (∀ o, o ≠ 85 → o ≠ 89 → s o = σ o) ∧ ∀ v, v < i → s 85 v = 0 ∧ s 89 v = -1) ?_ n _ _ ⟨0, by omega, by omega, rfl, fun _ _ _ => rfl, fun v hv => by omega⟩
  rintro m L s ⟨i, hi, rfl, rfl, hk, hv⟩
  have hs : s 14 1 = n := by rw [hk 14 (by decide) (by decide)]; exact hn
  simp [wpS_skip, wpS_break, wpS_cont, wpS_retV, wpS_throw, wpS_seq, wpS_if, wpS_trunc, wpS_let, wpS_inc, wpS_put, wpS_putOp, wpS_ast0, wpS_ast1, wpS_astOp, wpS_E, wpS_call, wpS_callS, wpS_ret, kThen_N, kThen_B, kThen_C, kThen_R, kThen_T, kNext_N, kNext_C, kNext_B, kNext_R, wpE_K, wpE_KL, wpE_I, wpE_R, wpE_J, wpE_bin, wpE_ladd, wpE_i2l, wpE_get, wpE_ald0, wpE_ald1, wpE_if, wpE_max, wpE_min, wpE_len, wpA_nil, wpA_snoc, wpE_call, wpE_callS, wpC_C, wpC_L, wpC_Z, wpC_and, wpC_or, wpC_not, wpC_if, kck_iff, kck64_iff, kAdd_iff, kSub_iff, kMul_iff, kDiv_iff, kRem_iff, kAnd_iff, kcmp_0, kcmp_1, kcmp_2, kcmp_3, kcmp_4, kcmp_5, rR_inj, ktag, kset, ev_model, ev_model_arr, hs]
  by_cases h : i < n
  · simp [h, wpS_skip, wpS_break, wpS_cont, wpS_retV, wpS_throw, wpS_seq, wpS_if, wpS_trunc, wpS_let, wpS_inc, wpS_put, wpS_putOp, wpS_ast0, wpS_ast1, wpS_astOp, wpS_E, wpS_call, wpS_callS, wpS_ret, kThen_N, kThen_B, kThen_C, kThen_R, kThen_T, kNext_N, kNext_C, kNext_B, kNext_R, wpE_K, wpE_KL, wpE_I, wpE_R, wpE_J, wpE_bin, wpE_ladd, wpE_i2l, wpE_get, wpE_ald0, wpE_ald1, wpE_if, wpE_max, wpE_min, wpE_len, wpA_nil, wpA_snoc, wpE_call, wpE_callS, wpC_C, wpC_L, wpC_Z, wpC_and, wpC_or, wpC_not, wpC_if, kck_iff, kck64_iff, kAdd_iff, kSub_iff, kMul_iff, kDiv_iff, kRem_iff, kAnd_iff, kcmp_0, kcmp_1, kcmp_2, kcmp_3, kcmp_4, kcmp_5, rR_inj, ktag, kset, ev_model, ev_model_arr, hs]
    refine ⟨by omega, by omega, n - (i + 1), by omega, i + 1, by omega, rfl, by simp, ?_, ?_⟩
    · intro o h1 h2
      rw [kup_ne h2, kup_ne h1]
      exact hk o h1 h2
    · intro v hvi
      by_cases e : v = i
      · subst e
        simp [kup]
      · have := hv v (by omega)
        simp [kup, e, this.1, this.2]
  · have : i = n := by omega
    subst this
    simp
    exact ⟨hk, hv⟩
/-- the value that says whether an arc counts -/
theorem wk_cnt {σ : kS} {fr so le wi k : Int} {a : Nat} {Q : kV → kS → Prop} (ha : a < 5000)
    (hq : ∀ z, ((mcnt σ so le wi a ∧ z = 1) ∨ (¬ mcnt σ so le wi a ∧ z = 0)) → Q (.inl z) σ) :
    wpE (eIf (cAnd (cC 1 (eI 6) (eI 4)) (cIf (cZ 0 (eI 2)) (cAnd (cZ 1 (eAld 1 (eGet 12 7 (eR 0)) (eI 6))) (cC 3 (eAld 0 (eGet 12 6 (eR 0)) (eI 6)) (eI 3))) (cOr (cC 2 (eI 2) (eK (4))) (cNot (cZ 1 (eAld 1 (eGet 12 8 (eR 0)) (eI 6))))))) (eK (1)) (eK (0)))
      [some (.inr (.inl 14)), some (.inl fr), some (.inl so), some (.inl le), some (.inl wi), some (.inl k), some (.inl (a : Int))] σ Q := by
  have h1 : (a : Int) < 5000 := by omega
  simp [wpS_skip, wpS_break, wpS_cont, wpS_retV, wpS_throw, wpS_seq, wpS_if, wpS_trunc, wpS_let, wpS_inc, wpS_put, wpS_putOp, wpS_ast0, wpS_ast1, wpS_astOp, wpS_E, wpS_call, wpS_callS, wpS_ret, kThen_N, kThen_B, kThen_C, kThen_R, kThen_T, kNext_N, kNext_C, kNext_B, kNext_R, wpE_K, wpE_KL, wpE_I, wpE_R, wpE_J, wpE_bin, wpE_ladd, wpE_i2l, wpE_get, wpE_ald0, wpE_ald1, wpE_if, wpE_max, wpE_min, wpE_len, wpA_nil, wpA_snoc, wpE_call, wpE_callS, wpC_C, wpC_L, wpC_Z, wpC_and, wpC_or, wpC_not, wpC_if, kck_iff, kck64_iff, kAdd_iff, kSub_iff, kMul_iff, kDiv_iff, kRem_iff, kAnd_iff, kcmp_0, kcmp_1, kcmp_2, kcmp_3, kcmp_4, kcmp_5, rR_inj, ktag, kset, ev_model, ev_model_arr, h1]
  have q0 : ¬ mcnt σ so le wi a → Q (.inl 0) σ := fun h => hq 0 (Or.inr ⟨h, rfl⟩)
  have q1 : mcnt σ so le wi a → Q (.inl 1) σ := fun h => hq 1 (Or.inl ⟨h, rfl⟩)
  unfold mcnt at q0 q1
  by_cases e1 : (a : Int) = wi
  · simp [e1] at q0 ⊢
    exact q0
  · by_cases e2 : so = 0
    · by_cases e3 : σ 74 a = 0
      · simp [e1, e2, e3, ha] at q0 ⊢
        exact q0
      · by_cases e4 : le ≤ σ 73 a
        · simp [e1, e2, e3, e4, ha] at q1 ⊢
          exact q1
        · simp [e1, e2, e3, e4, ha] at q0 ⊢
          exact q0
    · by_cases e3 : so < 4
      · simp [e1, e2, e3, ha] at q1 ⊢
        exact q1
      · by_cases e4 : σ 75 a = 0
        · simp [e1, e2, e3, e4, ha] at q1 ⊢
          exact q1
        · simp [e1, e2, e3, e4, ha] at q0 ⊢
          exact q0
theorem wpS_letI {i : Nat} {e : kEx} {L : kL} {σ : kS} {Q : kR → kL → kS → Prop} (h : wpE e L σ (fun v s => ∃ z, v = .inl z ∧ ∃ L', kset L i (.inl z) = some L' ∧ Q rN L' s)) : wpS (sLet 0 i e) L σ Q := by
  rw [wpS_let]
  refine h.mono ?_
  rintro v s ⟨z, rfl, L', h1, h2⟩
  exact ⟨rfl, L', h1, h2⟩
def mfwd (so : Int) : Prop := so ≠ 3 ∧ so ≠ 5
def mbwd (so : Int) : Prop := so ≠ 2 ∧ so ≠ 4
/-- half-arc e leaves node v, of an arc at a place from i on -/
def mhe (σ : kS) (c : Nat) (li fs sn : Nat → Nat) (so le wi : Int) (i : Nat) (e v : Nat) : Prop := ∃ k, i ≤ k ∧ k < c ∧ mcnt σ so le wi (li k) ∧ ((mfwd so ∧ e = 2 * li k ∧ fs (li k) = v) ∨ (mbwd so ∧ e = 2 * li k + 1 ∧ sn (li k) = v))
def mpush (al : Nat → List Nat) (v e : Nat) : Nat → List Nat := fun w => if w = v then e :: al v else al w
theorem chn_push {s : kS} {al : Nat → List Nat} {v e n : Nat} (he : e < 10000) (hv : v < n) (hn : ∀ w, w < n → e ∉ al w) (h : ∀ w, w < n → chn s (s 89 w) (al w)) :
    ∀ w, w < n → chn (kup (kup s 90 e (s 89 v)) 89 v e) ((kup (kup s 90 e (s 89 v)) 89 v e) 89 w) (mpush al v e w) := by
  intro w hw
  unfold mpush
  by_cases q : w = v
  · subst q
    rw [if_pos rfl]
    have e1 : kup (kup s 90 e (s 89 w)) 89 w e 89 w = e := by simp [kup]
    rw [e1]
    refine ⟨rfl, he, ?_⟩
    have e2 : kup (kup s 90 e (s 89 w)) 89 w e 90 e = s 89 w := by simp [kup]
    rw [e2]
    exact chn_other (by decide) (chn_kup (hn w hw) (h w hw))
  · rw [if_neg q]
    have e1 : kup (kup s 90 e (s 89 v)) 89 v e 89 w = s 89 w := by simp [kup, q]
    rw [e1]
    exact chn_other (by decide) (chn_kup (hn w hw) (h w hw))
theorem mem_mpush {al : Nat → List Nat} {v0 e0 v e : Nat} : e ∈ mpush al v0 e0 v ↔ e ∈ al v ∨ (e = e0 ∧ v0 = v) := by
  unfold mpush
  by_cases h : v = v0
  · subst h
    rw [if_pos rfl, List.mem_cons]
    exact ⟨fun q => q.elim (fun q => Or.inr ⟨q, rfl⟩) Or.inl, fun q => q.elim Or.inr (fun q => Or.inl q.1)⟩
  · rw [if_neg h]
    exact ⟨Or.inl, fun q => q.elim id (fun q => absurd q.2.symm h)⟩
theorem mcnt_agree {σ s : kS} {so le wi : Int} {a : Nat} (h1 : s 73 = σ 73) (h2 : s 74 = σ 74) (h3 : s 75 = σ 75) : mcnt s so le wi a ↔ mcnt σ so le wi a := by
  unfold mcnt
  rw [h1, h2, h3]
theorem wk2_ok {σ : kS} {n c : Nat} {li fs sn : Nat → Nat} {fr so le wi : Int} (hG : Mg σ n c li fs sn) (h0 : ∀ v, v < n → σ 89 v = -1) :
    wpS l_Md_walk_2 [some (.inr (.inl 14)), some (.inl fr), some (.inl so), some (.inl le), some (.inl wi), some (.inl ((c : Int) - 1))] σ
      (fun r L s => r = rN ∧ L.take 5 = [some (.inr (.inl 14)), some (.inl fr), some (.inl so), some (.inl le), some (.inl wi)] ∧ (∀ o, o ≠ 90 → o ≠ 89 → s o = σ o) ∧
        ∃ al : Nat → List Nat, ∀ v, v < n → chn s (s 89 v) (al v) ∧ ∀ e, e ∈ al v ↔ mhe σ c li fs sn so le wi 0 e v) := by
  obtain ⟨hn, hc, hn3, hc9, hli, hinj⟩ := hG
  unfold l_Md_walk_2
  refine wpS_for (fun m L s => ∃ i : Nat, i ≤ c ∧ m = i ∧ L = [some (.inr (.inl 14)), some (.inl fr), some (.inl so), some (.inl le), some (.inl wi), some (.inl ((i : Int) - 1))] ∧ (∀ o, o ≠ 90 → o ≠ 89 → s o = σ o) ∧
        ∃ al : Nat → List Nat, ∀ v, v < n → chn s (s 89 v) (al v) ∧ ∀ e, e ∈ al v ↔ mhe σ c li fs sn so le wi i e v) ?_ c _ _ ⟨c, Nat.le_refl _, rfl, rfl, fun _ _ _ => rfl, fun _ => [], fun v hv => ⟨h0 v hv, fun e => ⟨fun h => by simp at h, fun ⟨k, h1, h2, _⟩ => by omega⟩⟩⟩
  rintro m L s ⟨i, hi, hm, rfl, hk, al, hal⟩
  rw [wpC_Z, wpE_I]
  refine ⟨_, rfl, _, rfl, ?_⟩
  rw [kcmp_3]
  by_cases h : 0 < i
  · have hi1 : (0 : Int) ≤ (i : Int) - 1 := by omega
    rw [if_pos (by simpa using hi1)]
    obtain ⟨j, rfl⟩ : ∃ j, i = j + 1 := ⟨i - 1, by omega⟩
    obtain ⟨a1, a2, a3, a4, a5, a6⟩ := hli j (by omega)
    have ej : ((j + 1 : Nat) : Int) - 1 = (j : Int) := by omega
    have etn : ((j : Nat) : Int).toNat = j := rfl
    have s77 : s 77 j = li j := by rw [hk 77 (by decide) (by decide)]; exact a1
    have s71 : s 71 (li j) = fs (li j) := by rw [hk 71 (by decide) (by decide)]; exact a3
    have s72 : s 72 (li j) = sn (li j) := by rw [hk 72 (by decide) (by decide)]; exact a4
    have hmc : ∀ a, mcnt s so le wi a ↔ mcnt σ so le wi a := fun a => mcnt_agree (hk 73 (by decide) (by decide)) (hk 74 (by decide) (by decide)) (hk 75 (by decide) (by decide))
    rw [ej, wpS_trunc, wpS_seq]
    refine wpS_letI ?_
    simp only [wpE_ald0, wpE_get, wpE_R, wpE_I, List.getElem?_cons_zero, List.getElem?_cons_succ, Option.some.injEq, Sum.inl.injEq, Sum.inr.injEq, exists_eq_left', ev_model, ev_model_arr, Prod.mk.injEq]
    refine ⟨77, 901, (j : Int), ⟨rfl, rfl⟩, rfl, by omega, by omega, ?_⟩
    rw [etn, s77]
    refine ⟨_, rfl, ?_⟩
    rw [kThen_N, wpS_seq]
    refine wpS_letI (wk_cnt a2 ?_)
    rintro z (⟨hcn, rfl⟩ | ⟨hcn, rfl⟩)
    · refine ⟨1, rfl, _, rfl, ?_⟩
      rw [kThen_N]
      have hcn' : mcnt σ so le wi (li j) := (hmc _).mp hcn
      have b5 : (fs (li j) : Int) < 300 := by omega
      have b6 : (sn (li j) : Int) < 300 := by omega
      have b7 : (li j : Int) < 5000 := by omega
      have c2 : 2 * (li j : Int) = ((2 * li j : Nat) : Int) := by omega
      have c3 : ((2 * li j : Nat) : Int) + 1 = ((2 * li j + 1 : Nat) : Int) := by omega
      -- the lists behind the two pushes
      have mem : ∀ (v e : Nat), mhe σ c li fs sn so le wi j e v ↔ mhe σ c li fs sn so le wi (j + 1) e v ∨ (mfwd so ∧ e = 2 * li j ∧ fs (li j) = v) ∨ (mbwd so ∧ e = 2 * li j + 1 ∧ sn (li j) = v) := by
        intro v e
        constructor
        · rintro ⟨k, g1, g2, g3, g4⟩
          rcases Nat.lt_or_ge j k with q | q
          · exact Or.inl ⟨k, q, g2, g3, g4⟩
          · have : k = j := by omega
            subst this
            exact Or.inr g4
        · rintro (⟨k, g1, g2, g3, g4⟩ | q)
          · exact ⟨k, by omega, g2, g3, g4⟩
          · exact ⟨j, Nat.le_refl _, by omega, hcn', q⟩
      have fresh : ∀ v, v < n → 2 * li j ∉ al v ∧ 2 * li j + 1 ∉ al v := by
        intro v hv
        constructor
        · intro q
          obtain ⟨k, g1, g2, g3, g4⟩ := ((hal v hv).2 _).mp q
          rcases g4 with ⟨-, g5, -⟩ | ⟨-, g5, -⟩
          · have := hinj j k (by omega) g2 (by omega); omega
          · omega
        · intro q
          obtain ⟨k, g1, g2, g3, g4⟩ := ((hal v hv).2 _).mp q
          rcases g4 with ⟨-, g5, -⟩ | ⟨-, g5, -⟩
          · omega
          · have := hinj j k (by omega) g2 (by omega); omega
      have fin : ∀ (s' : kS) (al' : Nat → List Nat), (∀ o, o ≠ 90 → o ≠ 89 → s' o = s o) → (∀ v, v < n → chn s' (s' 89 v) (al' v) ∧ ∀ e, e ∈ al' v ↔ mhe σ c li fs sn so le wi j e v) →
          ∃ m', m' < m ∧ ∃ i, i ≤ c ∧ m' = i ∧ [some (Sum.inr (Sum.inl 14)), some (Sum.inl fr), some (Sum.inl so), some (Sum.inl le), some (Sum.inl wi), some (Sum.inl ((j : Int) + -1))] = ([some (Sum.inr (Sum.inl 14)), some (Sum.inl fr), some (Sum.inl so), some (Sum.inl le), some (Sum.inl wi), some (Sum.inl ((i : Int) - 1))] : kL) ∧ (∀ o, ¬ o = 90 → ¬ o = 89 → s' o = σ o) ∧ ∃ al : Nat → List Nat, ∀ v, v < n → chn s' (s' 89 v) (al v) ∧ ∀ e, e ∈ al v ↔ mhe σ c li fs sn so le wi i e v :=
        fun s' al' h1 h2 => ⟨j, by omega, j, by omega, rfl, rfl, fun o q1 q2 => (h1 o q1 q2).trans (hk o q1 q2), al', h2⟩
      have p1 : ∀ w, w < n → chn (kup (kup s 90 (2 * li j) (s 89 (fs (li j)))) 89 (fs (li j)) ((2 * li j : Nat) : Int)) ((kup (kup s 90 (2 * li j) (s 89 (fs (li j)))) 89 (fs (li j)) ((2 * li j : Nat) : Int)) 89 w) (mpush al (fs (li j)) (2 * li j) w) :=
        chn_push (by omega) a5 (fun w hw => (fresh w hw).1) (fun w hw => (hal w hw).1)
      by_cases hf : mfwd so
      · have hf' := hf
        unfold mfwd at hf'
        by_cases hb : mbwd so
        · have hb' := hb
          unfold mbwd at hb'
          refine wpS_seq' (fun Q1 hQ1 => ?_)
          simp only [wpS_skip, wpS_break, wpS_cont, wpS_retV, wpS_throw, wpS_seq, wpS_if, wpS_trunc, yS_let, yS_inc, kgK_i, kgK_r, kok_nil, kok_i0, kok_is, kok_r0, kok_rs, kok_n0, kok_ns, xS_put, xS_putOp, xS_ast0, xS_ast1, xS_astOp, wpS_E, wpS_call, wpS_callS, wpS_ret, kThen_N, kThen_B, kThen_C, kThen_R, kThen_T, kNext_N, kNext_C, kNext_B, kNext_R, wpE_K, wpE_KL, xE_I, xE_R, wpE_J, xE_bin, wpE_ladd, wpE_i2l, xE_get, xE_ald0, xE_ald1, wpE_if, xE_max, xE_min, wpE_len, wpA_nil, wpA_snoc, xE_call, xE_callS, xC_C, xC_L, xC_Z, wpC_and, wpC_or, wpC_not, wpC_if, kcmp_0, kcmp_1, kcmp_2, kcmp_3, kcmp_4, kcmp_5, rR_inj, kgO_some, kgO_add, kgO_sub, kgO_mul, kgO_div, kgO_rem, kgO_and, kvI_inl, kvJ_inl, kgI_0, kgI_s, kgR_0, kgR_s, kst_nil, kst_0, kst_s, kNLl_nil, kNLl_i, kNLl_r, kNLl_n, ktag_i, ktag_r, List.length_cons, List.length_nil, List.take_succ_cons, List.take_zero, List.take_nil, List.nil_append, List.cons_append, decide_eq_true_eq, Bool.not_eq_true, Bool.not_eq_true', decide_eq_false_iff_not, ne_eq, Decidable.not_not, true_and, and_true, Nat.reduceAdd, Nat.reduceLeDiff, Nat.reduceEqDiff, Nat.le_refl, not_true_eq_false, not_false_eq_true, reduceIte, eq_self, Int.reduceNeg, Int.reduceEq, Int.reduceLT, Int.reduceLE, Nat.zero_le, Nat.one_ne_zero]
          rw [hQ1]
          refine kThen_N.mpr ?_
          refine wpS_seq' (fun Q2 hQ2 => ?_)
          simp only [wpS_skip, wpS_break, wpS_cont, wpS_retV, wpS_throw, wpS_seq, wpS_if, wpS_trunc, yS_let, yS_inc, kgK_i, kgK_r, kok_nil, kok_i0, kok_is, kok_r0, kok_rs, kok_n0, kok_ns, xS_put, xS_putOp, xS_ast0, xS_ast1, xS_astOp, wpS_E, wpS_call, wpS_callS, wpS_ret, kThen_N, kThen_B, kThen_C, kThen_R, kThen_T, kNext_N, kNext_C, kNext_B, kNext_R, wpE_K, wpE_KL, xE_I, xE_R, wpE_J, xE_bin, wpE_ladd, wpE_i2l, xE_get, xE_ald0, xE_ald1, wpE_if, xE_max, xE_min, wpE_len, wpA_nil, wpA_snoc, xE_call, xE_callS, xC_C, xC_L, xC_Z, wpC_and, wpC_or, wpC_not, wpC_if, kcmp_0, kcmp_1, kcmp_2, kcmp_3, kcmp_4, kcmp_5, rR_inj, kgO_some, kgO_add, kgO_sub, kgO_mul, kgO_div, kgO_rem, kgO_and, kvI_inl, kvJ_inl, kgI_0, kgI_s, kgR_0, kgR_s, kst_nil, kst_0, kst_s, kNLl_nil, kNLl_i, kNLl_r, kNLl_n, ktag_i, ktag_r, List.length_cons, List.length_nil, List.take_succ_cons, List.take_zero, List.take_nil, List.nil_append, List.cons_append, decide_eq_true_eq, Bool.not_eq_true, Bool.not_eq_true', decide_eq_false_iff_not, ne_eq, Decidable.not_not, true_and, and_true, Nat.reduceAdd, Nat.reduceLeDiff, Nat.reduceEqDiff, Nat.le_refl, not_true_eq_false, not_false_eq_true, reduceIte, eq_self, Int.reduceNeg, Int.reduceEq, Int.reduceLT, Int.reduceLE, Nat.zero_le, Nat.one_ne_zero, ev_model, ev_model_arr, hf', s71, Int.toNat_natCast, c2]
          repeat refine And.intro (by omega) ?_
          rw [kup_ne (by decide), s71, Int.toNat_natCast]
          repeat refine And.intro (by omega) ?_
          rw [hQ2]
          refine kThen_N.mpr ?_
          refine wpS_gen (fun Q3 hQ3 => ?_)
          simp only [wpS_skip, wpS_break, wpS_cont, wpS_retV, wpS_throw, wpS_seq, wpS_if, wpS_trunc, yS_let, yS_inc, kgK_i, kgK_r, kok_nil, kok_i0, kok_is, kok_r0, kok_rs, kok_n0, kok_ns, xS_put, xS_putOp, xS_ast0, xS_ast1, xS_astOp, wpS_E, wpS_call, wpS_callS, wpS_ret, kThen_N, kThen_B, kThen_C, kThen_R, kThen_T, kNext_N, kNext_C, kNext_B, kNext_R, wpE_K, wpE_KL, xE_I, xE_R, wpE_J, xE_bin, wpE_ladd, wpE_i2l, xE_get, xE_ald0, xE_ald1, wpE_if, xE_max, xE_min, wpE_len, wpA_nil, wpA_snoc, xE_call, xE_callS, xC_C, xC_L, xC_Z, wpC_and, wpC_or, wpC_not, wpC_if, kcmp_0, kcmp_1, kcmp_2, kcmp_3, kcmp_4, kcmp_5, rR_inj, kgO_some, kgO_add, kgO_sub, kgO_mul, kgO_div, kgO_rem, kgO_and, kvI_inl, kvJ_inl, kgI_0, kgI_s, kgR_0, kgR_s, kst_nil, kst_0, kst_s, kNLl_nil, kNLl_i, kNLl_r, kNLl_n, ktag_i, ktag_r, List.length_cons, List.length_nil, List.take_succ_cons, List.take_zero, List.take_nil, List.nil_append, List.cons_append, decide_eq_true_eq, Bool.not_eq_true, Bool.not_eq_true', decide_eq_false_iff_not, ne_eq, Decidable.not_not, true_and, and_true, Nat.reduceAdd, Nat.reduceLeDiff, Nat.reduceEqDiff, Nat.le_refl, not_true_eq_false, not_false_eq_true, reduceIte, eq_self, Int.reduceNeg, Int.reduceEq, Int.reduceLT, Int.reduceLE, Nat.zero_le, Nat.one_ne_zero, ev_model, ev_model_arr, hb', Int.toNat_natCast, c2, c3]
          simp only [kup_ne (show (72 : Nat) ≠ 89 by decide), kup_ne (show (72 : Nat) ≠ 90 by decide), s72, Int.toNat_natCast]
          repeat refine And.intro (by omega) ?_
          rw [hQ3]
          simp only [wpS_skip, wpS_break, wpS_cont, wpS_retV, wpS_throw, wpS_seq, wpS_if, wpS_trunc, yS_let, yS_inc, kgK_i, kgK_r, kok_nil, kok_i0, kok_is, kok_r0, kok_rs, kok_n0, kok_ns, xS_put, xS_putOp, xS_ast0, xS_ast1, xS_astOp, wpS_E, wpS_call, wpS_callS, wpS_ret, kThen_N, kThen_B, kThen_C, kThen_R, kThen_T, kNext_N, kNext_C, kNext_B, kNext_R, wpE_K, wpE_KL, xE_I, xE_R, wpE_J, xE_bin, wpE_ladd, wpE_i2l, xE_get, xE_ald0, xE_ald1, wpE_if, xE_max, xE_min, wpE_len, wpA_nil, wpA_snoc, xE_call, xE_callS, xC_C, xC_L, xC_Z, wpC_and, wpC_or, wpC_not, wpC_if, kcmp_0, kcmp_1, kcmp_2, kcmp_3, kcmp_4, kcmp_5, rR_inj, kgO_some, kgO_add, kgO_sub, kgO_mul, kgO_div, kgO_rem, kgO_and, kvI_inl, kvJ_inl, kgI_0, kgI_s, kgR_0, kgR_s, kst_nil, kst_0, kst_s, kNLl_nil, kNLl_i, kNLl_r, kNLl_n, ktag_i, ktag_r, List.length_cons, List.length_nil, List.take_succ_cons, List.take_zero, List.take_nil, List.nil_append, List.cons_append, decide_eq_true_eq, Bool.not_eq_true, Bool.not_eq_true', decide_eq_false_iff_not, ne_eq, Decidable.not_not, true_and, and_true, Nat.reduceAdd, Nat.reduceLeDiff, Nat.reduceEqDiff, Nat.le_refl, not_true_eq_false, not_false_eq_true, reduceIte, eq_self, Int.reduceNeg, Int.reduceEq, Int.reduceLT, Int.reduceLE, Nat.zero_le, Nat.one_ne_zero]
          repeat refine And.intro (by omega) ?_
          refine fin _ (mpush (mpush al (fs (li j)) (2 * li j)) (sn (li j)) (2 * li j + 1)) (fun o q1 q2 => by rw [kup_ne q2, kup_ne q1, kup_ne q2, kup_ne q1]) (fun v hv => ⟨?_, fun e => ?_⟩)
          · refine chn_push (by omega) a6 (fun w hw => ?_) p1 v hv
            unfold mpush
            have := (fresh w hw).2
            split
            · rename_i q
              simp only [List.mem_cons, not_or]
              exact ⟨by omega, by rw [← q]; exact this⟩
            · exact this
          · rw [mem, ← (hal v hv).2 e]
            rw [mem_mpush, mem_mpush]
            simp only [hf, hb, true_and, or_assoc]
        · have hb2 : so = 2 ∨ so = 4 := by
            unfold mbwd at hb
            by_cases q : so = 2
            · exact Or.inl q
            · exact Or.inr (Classical.byContradiction fun q2 => hb ⟨q, q2⟩)
          refine wpS_seq' (fun Q1 hQ1 => ?_)
          simp only [wpS_skip, wpS_break, wpS_cont, wpS_retV, wpS_throw, wpS_seq, wpS_if, wpS_trunc, yS_let, yS_inc, kgK_i, kgK_r, kok_nil, kok_i0, kok_is, kok_r0, kok_rs, kok_n0, kok_ns, xS_put, xS_putOp, xS_ast0, xS_ast1, xS_astOp, wpS_E, wpS_call, wpS_callS, wpS_ret, kThen_N, kThen_B, kThen_C, kThen_R, kThen_T, kNext_N, kNext_C, kNext_B, kNext_R, wpE_K, wpE_KL, xE_I, xE_R, wpE_J, xE_bin, wpE_ladd, wpE_i2l, xE_get, xE_ald0, xE_ald1, wpE_if, xE_max, xE_min, wpE_len, wpA_nil, wpA_snoc, xE_call, xE_callS, xC_C, xC_L, xC_Z, wpC_and, wpC_or, wpC_not, wpC_if, kcmp_0, kcmp_1, kcmp_2, kcmp_3, kcmp_4, kcmp_5, rR_inj, kgO_some, kgO_add, kgO_sub, kgO_mul, kgO_div, kgO_rem, kgO_and, kvI_inl, kvJ_inl, kgI_0, kgI_s, kgR_0, kgR_s, kst_nil, kst_0, kst_s, kNLl_nil, kNLl_i, kNLl_r, kNLl_n, ktag_i, ktag_r, List.length_cons, List.length_nil, List.take_succ_cons, List.take_zero, List.take_nil, List.nil_append, List.cons_append, decide_eq_true_eq, Bool.not_eq_true, Bool.not_eq_true', decide_eq_false_iff_not, ne_eq, Decidable.not_not, true_and, and_true, Nat.reduceAdd, Nat.reduceLeDiff, Nat.reduceEqDiff, Nat.le_refl, not_true_eq_false, not_false_eq_true, reduceIte, eq_self, Int.reduceNeg, Int.reduceEq, Int.reduceLT, Int.reduceLE, Nat.zero_le, Nat.one_ne_zero]
          rw [hQ1]
          refine kThen_N.mpr ?_
          refine wpS_seq' (fun Q2 hQ2 => ?_)
          simp only [wpS_skip, wpS_break, wpS_cont, wpS_retV, wpS_throw, wpS_seq, wpS_if, wpS_trunc, yS_let, yS_inc, kgK_i, kgK_r, kok_nil, kok_i0, kok_is, kok_r0, kok_rs, kok_n0, kok_ns, xS_put, xS_putOp, xS_ast0, xS_ast1, xS_astOp, wpS_E, wpS_call, wpS_callS, wpS_ret, kThen_N, kThen_B, kThen_C, kThen_R, kThen_T, kNext_N, kNext_C, kNext_B, kNext_R, wpE_K, wpE_KL, xE_I, xE_R, wpE_J, xE_bin, wpE_ladd, wpE_i2l, xE_get, xE_ald0, xE_ald1, wpE_if, xE_max, xE_min, wpE_len, wpA_nil, wpA_snoc, xE_call, xE_callS, xC_C, xC_L, xC_Z, wpC_and, wpC_or, wpC_not, wpC_if, kcmp_0, kcmp_1, kcmp_2, kcmp_3, kcmp_4, kcmp_5, rR_inj, kgO_some, kgO_add, kgO_sub, kgO_mul, kgO_div, kgO_rem, kgO_and, kvI_inl, kvJ_inl, kgI_0, kgI_s, kgR_0, kgR_s, kst_nil, kst_0, kst_s, kNLl_nil, kNLl_i, kNLl_r, kNLl_n, ktag_i, ktag_r, List.length_cons, List.length_nil, List.take_succ_cons, List.take_zero, List.take_nil, List.nil_append, List.cons_append, decide_eq_true_eq, Bool.not_eq_true, Bool.not_eq_true', decide_eq_false_iff_not, ne_eq, Decidable.not_not, true_and, and_true, Nat.reduceAdd, Nat.reduceLeDiff, Nat.reduceEqDiff, Nat.le_refl, not_true_eq_false, not_false_eq_true, reduceIte, eq_self, Int.reduceNeg, Int.reduceEq, Int.reduceLT, Int.reduceLE, Nat.zero_le, Nat.one_ne_zero, ev_model, ev_model_arr, hf', s71, Int.toNat_natCast, c2]
          repeat refine And.intro (by omega) ?_
          rw [kup_ne (by decide), s71, Int.toNat_natCast]
          repeat refine And.intro (by omega) ?_
          rw [hQ2]
          refine kThen_N.mpr ?_
          refine wpS_gen (fun Q3 hQ3 => ?_)
          have fin2 := fin _ (mpush al (fs (li j)) (2 * li j)) (fun o q1 q2 => by rw [kup_ne q2, kup_ne q1]) (fun v hv => ⟨p1 v hv, fun e => by
            rw [mem, ← (hal v hv).2 e, mem_mpush]
            simp only [hf, hb, true_and, false_and, or_false]⟩)
          rcases hb2 with rfl | rfl <;> (simp only [wpS_skip, wpS_break, wpS_cont, wpS_retV, wpS_throw, wpS_seq, wpS_if, wpS_trunc, yS_let, yS_inc, kgK_i, kgK_r, kok_nil, kok_i0, kok_is, kok_r0, kok_rs, kok_n0, kok_ns, xS_put, xS_putOp, xS_ast0, xS_ast1, xS_astOp, wpS_E, wpS_call, wpS_callS, wpS_ret, kThen_N, kThen_B, kThen_C, kThen_R, kThen_T, kNext_N, kNext_C, kNext_B, kNext_R, wpE_K, wpE_KL, xE_I, xE_R, wpE_J, xE_bin, wpE_ladd, wpE_i2l, xE_get, xE_ald0, xE_ald1, wpE_if, xE_max, xE_min, wpE_len, wpA_nil, wpA_snoc, xE_call, xE_callS, xC_C, xC_L, xC_Z, wpC_and, wpC_or, wpC_not, wpC_if, kcmp_0, kcmp_1, kcmp_2, kcmp_3, kcmp_4, kcmp_5, rR_inj, kgO_some, kgO_add, kgO_sub, kgO_mul, kgO_div, kgO_rem, kgO_and, kvI_inl, kvJ_inl, kgI_0, kgI_s, kgR_0, kgR_s, kst_nil, kst_0, kst_s, kNLl_nil, kNLl_i, kNLl_r, kNLl_n, ktag_i, ktag_r, List.length_cons, List.length_nil, List.take_succ_cons, List.take_zero, List.take_nil, List.nil_append, List.cons_append, decide_eq_true_eq, Bool.not_eq_true, Bool.not_eq_true', decide_eq_false_iff_not, ne_eq, Decidable.not_not, true_and, and_true, Nat.reduceAdd, Nat.reduceLeDiff, Nat.reduceEqDiff, Nat.le_refl, not_true_eq_false, not_false_eq_true, reduceIte, eq_self, Int.reduceNeg, Int.reduceEq, Int.reduceLT, Int.reduceLE, Nat.zero_le, Nat.one_ne_zero]; rw [hQ3]; simp only [wpS_skip, wpS_break, wpS_cont, wpS_retV, wpS_throw, wpS_seq, wpS_if, wpS_trunc, yS_let, yS_inc, kgK_i, kgK_r, kok_nil, kok_i0, kok_is, kok_r0, kok_rs, kok_n0, kok_ns, xS_put, xS_putOp, xS_ast0, xS_ast1, xS_astOp, wpS_E, wpS_call, wpS_callS, wpS_ret, kThen_N, kThen_B, kThen_C, kThen_R, kThen_T, kNext_N, kNext_C, kNext_B, kNext_R, wpE_K, wpE_KL, xE_I, xE_R, wpE_J, xE_bin, wpE_ladd, wpE_i2l, xE_get, xE_ald0, xE_ald1, wpE_if, xE_max, xE_min, wpE_len, wpA_nil, wpA_snoc, xE_call, xE_callS, xC_C, xC_L, xC_Z, wpC_and, wpC_or, wpC_not, wpC_if, kcmp_0, kcmp_1, kcmp_2, kcmp_3, kcmp_4, kcmp_5, rR_inj, kgO_some, kgO_add, kgO_sub, kgO_mul, kgO_div, kgO_rem, kgO_and, kvI_inl, kvJ_inl, kgI_0, kgI_s, kgR_0, kgR_s, kst_nil, kst_0, kst_s, kNLl_nil, kNLl_i, kNLl_r, kNLl_n, ktag_i, ktag_r, List.length_cons, List.length_nil, List.take_succ_cons, List.take_zero, List.take_nil, List.nil_append, List.cons_append, decide_eq_true_eq, Bool.not_eq_true, Bool.not_eq_true', decide_eq_false_iff_not, ne_eq, Decidable.not_not, true_and, and_true, Nat.reduceAdd, Nat.reduceLeDiff, Nat.reduceEqDiff, Nat.le_refl, not_true_eq_false, not_false_eq_true, reduceIte, eq_self, Int.reduceNeg, Int.reduceEq, Int.reduceLT, Int.reduceLE, Nat.zero_le, Nat.one_ne_zero]; repeat refine And.intro (by omega) ?_) <;> exact fin2
      · have hf2 : so = 3 ∨ so = 5 := by
          unfold mfwd at hf
          by_cases q : so = 3
          · exact Or.inl q
          · exact Or.inr (Classical.byContradiction fun q2 => hf ⟨q, q2⟩)
        have hb : mbwd so := by
          unfold mbwd
          constructor <;> (intro q; omega)
        have hb' := hb
        unfold mbwd at hb'
        refine wpS_seq' (fun Q1 hQ1 => ?_)
        simp only [wpS_skip, wpS_break, wpS_cont, wpS_retV, wpS_throw, wpS_seq, wpS_if, wpS_trunc, yS_let, yS_inc, kgK_i, kgK_r, kok_nil, kok_i0, kok_is, kok_r0, kok_rs, kok_n0, kok_ns, xS_put, xS_putOp, xS_ast0, xS_ast1, xS_astOp, wpS_E, wpS_call, wpS_callS, wpS_ret, kThen_N, kThen_B, kThen_C, kThen_R, kThen_T, kNext_N, kNext_C, kNext_B, kNext_R, wpE_K, wpE_KL, xE_I, xE_R, wpE_J, xE_bin, wpE_ladd, wpE_i2l, xE_get, xE_ald0, xE_ald1, wpE_if, xE_max, xE_min, wpE_len, wpA_nil, wpA_snoc, xE_call, xE_callS, xC_C, xC_L, xC_Z, wpC_and, wpC_or, wpC_not, wpC_if, kcmp_0, kcmp_1, kcmp_2, kcmp_3, kcmp_4, kcmp_5, rR_inj, kgO_some, kgO_add, kgO_sub, kgO_mul, kgO_div, kgO_rem, kgO_and, kvI_inl, kvJ_inl, kgI_0, kgI_s, kgR_0, kgR_s, kst_nil, kst_0, kst_s, kNLl_nil, kNLl_i, kNLl_r, kNLl_n, ktag_i, ktag_r, List.length_cons, List.length_nil, List.take_succ_cons, List.take_zero, List.take_nil, List.nil_append, List.cons_append, decide_eq_true_eq, Bool.not_eq_true, Bool.not_eq_true', decide_eq_false_iff_not, ne_eq, Decidable.not_not, true_and, and_true, Nat.reduceAdd, Nat.reduceLeDiff, Nat.reduceEqDiff, Nat.le_refl, not_true_eq_false, not_false_eq_true, reduceIte, eq_self, Int.reduceNeg, Int.reduceEq, Int.reduceLT, Int.reduceLE, Nat.zero_le, Nat.one_ne_zero]
        rw [hQ1]
        refine kThen_N.mpr ?_
        refine wpS_seq' (fun Q2 hQ2 => ?_)
        have h2 : wpS (sIf (cAnd (cC 1 (eI 2) (eK (2))) (cC 1 (eI 2) (eK (4)))) (sSeq (sAst 0 (eGet 12 29 (eR 0)) (eBin kAdd (eBin kMul (eK (2)) (eI 6)) (eK (1))) (eAld 0 (eGet 12 28 (eR 0)) (eAld 0 (eGet 12 5 (eR 0)) (eI 6))))
  (sAst 0 (eGet 12 28 (eR 0)) (eAld 0 (eGet 12 5 (eR 0)) (eI 6)) (eBin kAdd (eBin kMul (eK (2)) (eI 6)) (eK (1))))) sSkip) [some (Sum.inr (Sum.inl 14)), some (Sum.inl fr), some (Sum.inl so), some (Sum.inl le), some (Sum.inl wi), some (Sum.inl (j : Int)), some (Sum.inl (li j : Int)), some (Sum.inl 1)] s (fun r L1 σ1 => r = rN ∧ L1 = [some (Sum.inr (Sum.inl 14)), some (Sum.inl fr), some (Sum.inl so), some (Sum.inl le), some (Sum.inl wi), some (Sum.inl (j : Int)), some (Sum.inl (li j : Int)), some (Sum.inl 1)] ∧ σ1 = kup (kup s 90 (2 * li j + 1) (s 89 (sn (li j)))) 89 (sn (li j)) ((2 * li j + 1 : Nat) : Int)) := by
          simp only [wpS_skip, wpS_break, wpS_cont, wpS_retV, wpS_throw, wpS_seq, wpS_if, wpS_trunc, yS_let, yS_inc, kgK_i, kgK_r, kok_nil, kok_i0, kok_is, kok_r0, kok_rs, kok_n0, kok_ns, xS_put, xS_putOp, xS_ast0, xS_ast1, xS_astOp, wpS_E, wpS_call, wpS_callS, wpS_ret, kThen_N, kThen_B, kThen_C, kThen_R, kThen_T, kNext_N, kNext_C, kNext_B, kNext_R, wpE_K, wpE_KL, xE_I, xE_R, wpE_J, xE_bin, wpE_ladd, wpE_i2l, xE_get, xE_ald0, xE_ald1, wpE_if, xE_max, xE_min, wpE_len, wpA_nil, wpA_snoc, xE_call, xE_callS, xC_C, xC_L, xC_Z, wpC_and, wpC_or, wpC_not, wpC_if, kcmp_0, kcmp_1, kcmp_2, kcmp_3, kcmp_4, kcmp_5, rR_inj, kgO_some, kgO_add, kgO_sub, kgO_mul, kgO_div, kgO_rem, kgO_and, kvI_inl, kvJ_inl, kgI_0, kgI_s, kgR_0, kgR_s, kst_nil, kst_0, kst_s, kNLl_nil, kNLl_i, kNLl_r, kNLl_n, ktag_i, ktag_r, List.length_cons, List.length_nil, List.take_succ_cons, List.take_zero, List.take_nil, List.nil_append, List.cons_append, decide_eq_true_eq, Bool.not_eq_true, Bool.not_eq_true', decide_eq_false_iff_not, ne_eq, Decidable.not_not, true_and, and_true, Nat.reduceAdd, Nat.reduceLeDiff, Nat.reduceEqDiff, Nat.le_refl, not_true_eq_false, not_false_eq_true, reduceIte, eq_self, Int.reduceNeg, Int.reduceEq, Int.reduceLT, Int.reduceLE, Nat.zero_le, Nat.one_ne_zero, ev_model, ev_model_arr, hb', s72, Int.toNat_natCast, c2, c3]
          repeat refine And.intro (by omega) ?_
          rw [kup_ne (by decide), s72, Int.toNat_natCast]
          repeat refine And.intro (by omega) ?_
          first | exact ⟨rfl, rfl, rfl⟩ | rfl
        have p2 : ∀ w, w < n → chn (kup (kup s 90 (2 * li j + 1) (s 89 (sn (li j)))) 89 (sn (li j)) ((2 * li j + 1 : Nat) : Int)) ((kup (kup s 90 (2 * li j + 1) (s 89 (sn (li j)))) 89 (sn (li j)) ((2 * li j + 1 : Nat) : Int)) 89 w) (mpush al (sn (li j)) (2 * li j + 1) w) :=
          chn_push (by omega) a6 (fun w hw => (fresh w hw).2) (fun w hw => (hal w hw).1)
        have fin2 := fin _ (mpush al (sn (li j)) (2 * li j + 1)) (fun o q1 q2 => by rw [kup_ne q2, kup_ne q1]) (fun v hv => ⟨p2 v hv, fun e => by
            rw [mem, ← (hal v hv).2 e, mem_mpush]
            simp only [hf, hb, true_and, false_and, false_or]⟩)
        have first : Q2 rN [some (Sum.inr (Sum.inl 14)), some (Sum.inl fr), some (Sum.inl so), some (Sum.inl le), some (Sum.inl wi), some (Sum.inl (j : Int)), some (Sum.inl (li j : Int)), some (Sum.inl 1)] s := by
          rw [hQ2]
          refine kThen_N.mpr (h2.mono ?_)
          rintro r L1 σ1 ⟨rfl, rfl, rfl⟩
          simp only [wpS_skip, wpS_break, wpS_cont, wpS_retV, wpS_throw, wpS_seq, wpS_if, wpS_trunc, yS_let, yS_inc, kgK_i, kgK_r, kok_nil, kok_i0, kok_is, kok_r0, kok_rs, kok_n0, kok_ns, xS_put, xS_putOp, xS_ast0, xS_ast1, xS_astOp, wpS_E, wpS_call, wpS_callS, wpS_ret, kThen_N, kThen_B, kThen_C, kThen_R, kThen_T, kNext_N, kNext_C, kNext_B, kNext_R, wpE_K, wpE_KL, xE_I, xE_R, wpE_J, xE_bin, wpE_ladd, wpE_i2l, xE_get, xE_ald0, xE_ald1, wpE_if, xE_max, xE_min, wpE_len, wpA_nil, wpA_snoc, xE_call, xE_callS, xC_C, xC_L, xC_Z, wpC_and, wpC_or, wpC_not, wpC_if, kcmp_0, kcmp_1, kcmp_2, kcmp_3, kcmp_4, kcmp_5, rR_inj, kgO_some, kgO_add, kgO_sub, kgO_mul, kgO_div, kgO_rem, kgO_and, kvI_inl, kvJ_inl, kgI_0, kgI_s, kgR_0, kgR_s, kst_nil, kst_0, kst_s, kNLl_nil, kNLl_i, kNLl_r, kNLl_n, ktag_i, ktag_r, List.length_cons, List.length_nil, List.take_succ_cons, List.take_zero, List.take_nil, List.nil_append, List.cons_append, decide_eq_true_eq, Bool.not_eq_true, Bool.not_eq_true', decide_eq_false_iff_not, ne_eq, Decidable.not_not, true_and, and_true, Nat.reduceAdd, Nat.reduceLeDiff, Nat.reduceEqDiff, Nat.le_refl, not_true_eq_false, not_false_eq_true, reduceIte, eq_self, Int.reduceNeg, Int.reduceEq, Int.reduceLT, Int.reduceLE, Nat.zero_le, Nat.one_ne_zero]
          repeat refine And.intro (by omega) ?_
          exact fin2
        rcases hf2 with rfl | rfl <;> simp only [wpS_skip, wpS_break, wpS_cont, wpS_retV, wpS_throw, wpS_seq, wpS_if, wpS_trunc, yS_let, yS_inc, kgK_i, kgK_r, kok_nil, kok_i0, kok_is, kok_r0, kok_rs, kok_n0, kok_ns, xS_put, xS_putOp, xS_ast0, xS_ast1, xS_astOp, wpS_E, wpS_call, wpS_callS, wpS_ret, kThen_N, kThen_B, kThen_C, kThen_R, kThen_T, kNext_N, kNext_C, kNext_B, kNext_R, wpE_K, wpE_KL, xE_I, xE_R, wpE_J, xE_bin, wpE_ladd, wpE_i2l, xE_get, xE_ald0, xE_ald1, wpE_if, xE_max, xE_min, wpE_len, wpA_nil, wpA_snoc, xE_call, xE_callS, xC_C, xC_L, xC_Z, wpC_and, wpC_or, wpC_not, wpC_if, kcmp_0, kcmp_1, kcmp_2, kcmp_3, kcmp_4, kcmp_5, rR_inj, kgO_some, kgO_add, kgO_sub, kgO_mul, kgO_div, kgO_rem, kgO_and, kvI_inl, kvJ_inl, kgI_0, kgI_s, kgR_0, kgR_s, kst_nil, kst_0, kst_s, kNLl_nil, kNLl_i, kNLl_r, kNLl_n, ktag_i, ktag_r, List.length_cons, List.length_nil, List.take_succ_cons, List.take_zero, List.take_nil, List.nil_append, List.cons_append, decide_eq_true_eq, Bool.not_eq_true, Bool.not_eq_true', decide_eq_false_iff_not, ne_eq, Decidable.not_not, true_and, and_true, Nat.reduceAdd, Nat.reduceLeDiff, Nat.reduceEqDiff, Nat.le_refl, not_true_eq_false, not_false_eq_true, reduceIte, eq_self, Int.reduceNeg, Int.reduceEq, Int.reduceLT, Int.reduceLE, Nat.zero_le, Nat.one_ne_zero] <;> exact first
    · refine ⟨0, rfl, _, rfl, ?_⟩
      rw [kThen_N]
      simp only [wpS_skip, wpS_break, wpS_cont, wpS_retV, wpS_throw, wpS_seq, wpS_if, wpS_trunc, yS_let, yS_inc, kgK_i, kgK_r, kok_nil, kok_i0, kok_is, kok_r0, kok_rs, kok_n0, kok_ns, xS_put, xS_putOp, xS_ast0, xS_ast1, xS_astOp, wpS_E, wpS_call, wpS_callS, wpS_ret, kThen_N, kThen_B, kThen_C, kThen_R, kThen_T, kNext_N, kNext_C, kNext_B, kNext_R, wpE_K, wpE_KL, xE_I, xE_R, wpE_J, xE_bin, wpE_ladd, wpE_i2l, xE_get, xE_ald0, xE_ald1, wpE_if, xE_max, xE_min, wpE_len, wpA_nil, wpA_snoc, xE_call, xE_callS, xC_C, xC_L, xC_Z, wpC_and, wpC_or, wpC_not, wpC_if, kcmp_0, kcmp_1, kcmp_2, kcmp_3, kcmp_4, kcmp_5, rR_inj, kgO_some, kgO_add, kgO_sub, kgO_mul, kgO_div, kgO_rem, kgO_and, kvI_inl, kvJ_inl, kgI_0, kgI_s, kgR_0, kgR_s, kst_nil, kst_0, kst_s, kNLl_nil, kNLl_i, kNLl_r, kNLl_n, ktag_i, ktag_r, List.length_cons, List.length_nil, List.take_succ_cons, List.take_zero, List.take_nil, List.nil_append, List.cons_append, decide_eq_true_eq, Bool.not_eq_true, Bool.not_eq_true', decide_eq_false_iff_not, ne_eq, Decidable.not_not, true_and, and_true, Nat.reduceAdd, Nat.reduceLeDiff, Nat.reduceEqDiff, Nat.le_refl, not_true_eq_false, not_false_eq_true, reduceIte, eq_self, Int.reduceNeg, Int.reduceEq, Int.reduceLT, Int.reduceLE, Nat.zero_le, Nat.one_ne_zero]
      repeat refine And.intro (by omega) ?_
      refine ⟨j, by omega, j, by omega, rfl, rfl, hk, al, fun v hv => ⟨(hal v hv).1, fun e => ?_⟩⟩
      rw [(hal v hv).2 e]
      constructor
      · rintro ⟨k, h1, h2, h3⟩
        exact ⟨k, by omega, h2, h3⟩
      · rintro ⟨k, h1, h2, h3, h4⟩
        refine ⟨k, ?_, h2, h3, h4⟩
        rcases Nat.lt_or_ge j k with h | h
        · exact h
        · have : k = j := by omega
          subst this
          exact absurd ((hmc _).mpr h3) hcn
  · have : i = 0 := by omega
    subst this
    rw [if_neg (by simp)]
    exact ⟨rfl, rfl, hk, al, hal⟩
