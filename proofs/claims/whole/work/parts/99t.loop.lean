/-! THE LAW 3: its loop -/
section LP
variable {X : kX} {n b L : Nat} {σ : kS} {A : Int} {xs : Nat → Int32}
/-- one round, from the switch -/
theorem law_round {c : Nat} (hc : c < 32) (R : kRd X n σ A b L xs) (kk : kGo X n A) : kW MLw X 49 (L5 n) [.inl (c : Int)] σ := by
  have CC := R.1.1
  have out : 20 < c → kW MLw X 49 (L5 n) [.inl (c : Int)] σ := fun h => kg_tswOut (tgt := 1304) CC dL_law_49 ⟨by omega, by omega⟩ (Or.inr (by omega)) (by decide) (kW_up (kk σ R.2.2.2.1 (R.2.2.2.2.1.mono (by omega))))
  have inn : ∀ (z off : Int) (tgt : Nat), (c : Int) = z → 0 ≤ z → z ≤ 20 → (#[99, 155, 211, 279, 335, 403, 478, 553, 621, 689, 745, 813, 869, 883, 951, 1007, 1075, 1162, 1175, 1231, 1244] : Array Int)[(z - 0).toNat]? = some off → (49 : Int) + off = (tgt : Int) → kW MLw X tgt (L5 n) [] σ → kW MLw X 49 (L5 n) [.inl (c : Int)] σ := by
    intro z off tgt e h1 h2 ho ht h
    rw [e]
    exact kg_tswIn CC dL_law_49 ⟨by omega, by omega⟩ h1 h2 ho ht h
  rcases Nat.lt_or_ge 20 c with h | h
  · exact out h
  · obtain h | h | h | h | h | h | h | h | h | h | h | h | h | h | h | h | h | h | h | h | h : c = 0 ∨ c = 1 ∨ c = 2 ∨ c = 3 ∨ c = 4 ∨ c = 5 ∨ c = 6 ∨ c = 7 ∨ c = 8 ∨ c = 9 ∨ c = 10 ∨ c = 11 ∨ c = 12 ∨ c = 13 ∨ c = 14 ∨ c = 15 ∨ c = 16 ∨ c = 17 ∨ c = 18 ∨ c = 19 ∨ c = 20 := by omega
    · exact inn 0 99 148 (by omega) (by decide) (by decide) rfl (by decide) (case_node R kk)
    · exact inn 1 155 204 (by omega) (by decide) (by decide) rfl (by decide) (case_chain R kk)
    · exact inn 2 211 260 (by omega) (by decide) (by decide) rfl (by decide) (case_put R kk)
    · exact inn 3 279 328 (by omega) (by decide) (by decide) rfl (by decide) (case_take R kk)
    · exact inn 4 335 384 (by omega) (by decide) (by decide) rfl (by decide) (case_weigh R kk)
    · exact inn 5 403 452 (by omega) (by decide) (by decide) rfl (by decide) (case_joined R kk)
    · exact inn 6 478 527 (by omega) (by decide) (by decide) rfl (by decide) (case_two R kk)
    · exact inn 7 553 602 (by omega) (by decide) (by decide) rfl (by decide) (case_of R kk)
    · exact inn 8 621 670 (by omega) (by decide) (by decide) rfl (by decide) (case_arc R kk)
    · exact inn 9 689 738 (by omega) (by decide) (by decide) rfl (by decide) (case_order R kk)
    · exact inn 10 745 794 (by omega) (by decide) (by decide) rfl (by decide) (case_odd R kk)
    · exact inn 11 813 862 (by omega) (by decide) (by decide) rfl (by decide) (case_ring R kk)
    · exact inn 12 869 918 (by omega) (by decide) (by decide) rfl (by decide) (case_triangles R kk)
    · exact inn 13 883 932 (by omega) (by decide) (by decide) rfl (by decide) (case_planPut R kk)
    · exact inn 14 951 1000 (by omega) (by decide) (by decide) rfl (by decide) (case_planTake R kk)
    · exact inn 15 1007 1056 (by omega) (by decide) (by decide) rfl (by decide) (case_later R kk)
    · exact inn 16 1075 1124 (by omega) (by decide) (by decide) rfl (by decide) (case_laterJoined R kk)
    · exact inn 17 1162 1211 (by omega) (by decide) (by decide) rfl (by decide) (case_drop R kk)
    · exact inn 18 1175 1224 (by omega) (by decide) (by decide) rfl (by decide) (case_told R kk)
    · exact inn 19 1231 1280 (by omega) (by decide) (by decide) rfl (by decide) (case_sound R kk)
    · exact inn 20 1244 1293 (by omega) (by decide) (by decide) rfl (by decide) (case_clear R kk)
/-- the same walk with other counts of cells -/
def kRe (X : kX) (cl sl : Nat) : kX := match X with
  | (p, l, e, s, m, args, below, meth, c, Q, g, A, H0, _, _) => (p, l, e, s, m, args, below, meth, c, Q, g, A, H0, cl, sl)
theorem kRe_p (X : kX) (cl sl : Nat) : kRe (kXp X) cl sl = kRe X cl sl := by
  obtain ⟨p, l, e, s, m, args, below, meth, c, Q, g, A, H0, cells, slots⟩ := X
  rfl
theorem kRe_self (X : kX) : kRe X (kXc X) (kXs X) = X := by
  obtain ⟨p, l, e, s, m, args, below, meth, c, Q, g, A, H0, cells, slots⟩ := X
  rfl
theorem kXc_p (X : kX) : kXc (kXp X) = kXc X + 1 := by
  obtain ⟨p, l, e, s, m, args, below, meth, c, Q, g, A, H0, cells, slots⟩ := X
  rfl
theorem kXs_p (X : kX) : kXs (kXp X) = kXs X + 6 := by
  obtain ⟨p, l, e, s, m, args, below, meth, c, Q, g, A, H0, cells, slots⟩ := X
  rfl
/-- the loop, at its head, with the script's ints below n read; r rounds at most are left -/
theorem law_loop : ∀ (r : Nat) (n : Nat) (X : kX) (σ : kS) (A : Int), L ≤ n + 4 * r → n ≤ 5000 → L ≤ 5000 → A + 600 * r + 600 < 2147483647 → kXc X + r ≤ 601024 → kXs X + 6 * r ≤ 7293000 → kCX MLw X → kLC X b L xs → kVS σ → JV σ A →
    (∀ cl sl : Nat, kC MLw (kRe X cl sl) → ∀ (Lc : kL) (σ : kS), kW MLw (kRe X cl sl) 1310 Lc [] σ) → kW MLw X 33 (L5 n) [] σ := by
  intro r
  induction r with
  | zero =>
    intro n X σ A hL hn hL5 hA hc hs CC LC hS hJ hE
    refine kg_iload CC.1 dL_law_33 rfl (kg_aload_n CC.1 dL_law_35 rfl (kg_slen CC.1 LC dL_law_36 (kg_iconst CC.1 dL_law_37 (kg_isub CC.1 dL_law_38 ?_))))
    refine kg_icmp_gt (tgt := 1310) CC.1 ⟨by omega, by omega⟩ ⟨by omega, by omega⟩ dL_law_39 (by decide) (kW_t (decide_eq_true (by omega)) ?_)
    exact kRe_self X ▸ hE (kXc X) (kXs X) ((kRe_self X).symm ▸ CC.1) _ _
  | succ r ih =>
    intro n X σ A hL hn hL5 hA hc hs CC LC hS hJ hE
    refine kg_iload CC.1 dL_law_33 rfl (kg_aload_n CC.1 dL_law_35 rfl (kg_slen CC.1 LC dL_law_36 (kg_iconst CC.1 dL_law_37 (kg_isub CC.1 dL_law_38 ?_))))
    refine kg_icmp_gt (tgt := 1310) CC.1 ⟨by omega, by omega⟩ ⟨by omega, by omega⟩ dL_law_39 (by decide) ?_
    by_cases h : (L : Int) - 4 < (n : Int)
    · refine kW_t (decide_eq_true h) ?_
      exact kRe_self X ▸ hE (kXc X) (kXs X) ((kRe_self X).symm ▸ CC.1) _ _
    · refine kW_f (decide_eq_false h) ?_
      refine kg_aload_n CC.1 dL_law_42 rfl (kg_iload CC.1 dL_law_43 rfl (kg_sld (n := n) CC.1 LC rfl (by omega) dL_law_45 ?_))
      refine kg_bipush CC.1 dL_law_46 rfl (kg_iand31 CC.1 dL_law_48 (fun c hc32 => ?_))
      refine law_round hc32 ⟨CC, LC, by omega, hS, hJ, by omega, by omega, by omega⟩ (fun σ2 hS2 hJ2 => ?_)
      have CU : kCX MLw (kXp X) := CC.up (by show kXc X + 1 ≤ 601024; omega) (by show kXs X + 6 ≤ 7293000; omega)
      refine kg_iinc (L' := L5 (n + 4)) CU.1 dL_law_1304 (by decide) rfl (by rfl) ?_
      refine kg_goto (tgt := 33) CU.1 dL_law_1307 (by decide) ?_
      refine ih (n + 4) (kXp X) σ2 (A + 600) (by omega) (by omega) hL5 (by omega) (by rw [kXc_p]; omega) (by rw [kXs_p]; omega) CU LC.up hS2 hJ2 (fun cl sl hY Lc σ => ?_)
      rw [kRe_p] at hY ⊢
      exact hE cl sl hY Lc σ
end LP
