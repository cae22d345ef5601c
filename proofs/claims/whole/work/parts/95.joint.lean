/-! BOTH SIDES' STATE TOGETHER -/
section JO
variable {σ : kS} {n c ar st rl : Nat} {li fs sn lv od rt dp rg : Nat → Nat} {tr lo wt sp tk pa up : Nat → Int} {sf ss : Nat → Nat} {mv sx : Int} {S : Nat → Prop}
theorem Tp.agree {s : kS} {C : Nat → Prop} (h : Tp σ n dp pa C) (hs : ∀ k, s 32 k = σ 32 k) : Tp s n dp pa C := by
  intro v hv
  rw [hs]
  exact h v hv
theorem CR.cache {s : kS} (h : CR σ n c ar rl li fs sn lv od rt dp rg tr lo wt pa up mv sx S) (hs : ∀ o k, (o ≤ 10 ∨ (15 ≤ o ∧ o ≤ 53)) → o ≠ 31 → o ≠ 32 → ¬ (41 ≤ o ∧ o ≤ 50) → (o ≠ 6 ∨ k ≠ 3) → (o ≠ 8 ∨ (k ≠ 5 ∧ k ≠ 6)) → (o ≠ 9 ∨ (k ≠ 7 ∧ k ≠ 8)) → s o k = σ o k)
    (g1 : Csd s n (nbr (th c li) fs sn)) (g2 : TwS s n c li fs sn dp tr pa) (g3 : StS s n c li fs sn) : CR s n c ar rl li fs sn lv od rt dp rg tr lo wt pa up mv sx S := by
  obtain ⟨c0, c12, cW, cT, cL, cR, cG, ⟨rk, cC⟩, cS, ⟨a0, a1, a2, a3⟩, cSd, cTw, cSt⟩ := h
  have f : ∀ o k, (o ≤ 5 ∨ o = 7 ∨ o = 10 ∨ (15 ≤ o ∧ o ≤ 30) ∨ (33 ≤ o ∧ o ≤ 40) ∨ (51 ≤ o ∧ o ≤ 53)) → s o k = σ o k := fun o k ho => hs o k (by omega) (by omega) (by omega) (by omega) (by omega) (by omega) (by omega)
  have e15 : s 1 5 = σ 1 5 := f _ _ (by omega)
  refine ⟨by rw [f _ _ (by omega)]; exact c0, by rw [f _ _ (by omega)]; exact c12, cW.agree (fun o k ho => f o k (by unfold isWb at ho; omega)), cT.agree (fun o k ho => f o k (by unfold isTr at ho; omega)), fun x => by rw [f _ _ (by omega)]; exact cL x,
    ⟨fun p hp => by rw [f _ _ (by omega)]; exact cR.1 p hp, fun p hp => by rw [f _ _ (by omega)]; exact cR.2.1 p hp, cR.2.2⟩, ⟨by rw [f _ _ (by omega)]; exact cG.1, fun k hk => by rw [f _ _ (by omega)]; exact cG.2 k hk⟩,
    ⟨rk, fun v => by rw [f _ _ (by omega)]; exact cC.1 v, fun i hi => by rw [f _ _ (by omega)]; exact cC.2.1 i hi, cC.2.2⟩, fun v hv => by rw [f _ _ (by omega)]; exact cS v hv, ⟨by omega, g2.1, g3.1, g1.1⟩, g1, g2, g3⟩
theorem Csd.agree {s : kS} {N : Nat → Nat → Prop} (h : Csd σ n N) (hs : ∀ o k, o = 9 ∨ (45 ≤ o ∧ o ≤ 50) ∨ (o = 1 ∧ k = 5) → s o k = σ o k) : Csd s n N := by
  refine ⟨by rw [hs 9 8 (by omega), hs 1 5 (by omega)]; exact h.1, fun e => ?_⟩
  rw [hs 9 8 (by omega), hs 1 5 (by omega)] at e
  exact (h.2 e).agree (fun k => hs _ _ (by omega)) (fun k => hs _ _ (by omega)) (fun k => hs _ _ (by omega)) (hs _ _ (by omega))
theorem TwS.agree {s : kS} (h : TwS σ n c li fs sn dp tr pa) (hs : ∀ o k, o = 6 ∨ o = 32 ∨ (o = 1 ∧ k = 5) → s o k = σ o k) : TwS s n c li fs sn dp tr pa := by
  refine ⟨by rw [hs 6 3 (by omega), hs 1 5 (by omega)]; exact h.1, fun e => ?_⟩
  rw [hs 6 3 (by omega), hs 1 5 (by omega)] at e
  exact (h.2 e).agree (fun k => hs _ _ (by omega))
theorem StS.agree {s : kS} (h : StS σ n c li fs sn) (hs : ∀ o k, o = 8 ∨ o = 41 ∨ (o = 1 ∧ k = 5) → s o k = σ o k) : StS s n c li fs sn := by
  refine ⟨by rw [hs 8 6 (by omega), hs 1 5 (by omega)]; exact h.1, fun e v hv => ?_⟩
  rw [hs 8 6 (by omega), hs 1 5 (by omega)] at e
  rw [hs 41 v (by omega)]
  exact h.2 e v hv
theorem CR.agree {s : kS} (h : CR σ n c ar rl li fs sn lv od rt dp rg tr lo wt pa up mv sx S) (hs : ∀ o k, (o ≤ 10 ∨ (15 ≤ o ∧ o ≤ 53)) → s o k = σ o k) : CR s n c ar rl li fs sn lv od rt dp rg tr lo wt pa up mv sx S := by
  obtain ⟨c0, c12, cW, cT, cL, cR, cG, cC, cS, ⟨a0, a1, a2, a3⟩, cSd, cTw, cSt⟩ := id h
  refine h.cache (fun o k ho _ _ _ _ _ _ => hs o k ho) (cSd.agree (fun o k ho => hs o k (by omega))) (cTw.agree (fun o k ho => hs o k (by omega))) (cSt.agree (fun o k ho => hs o k (by omega)))
theorem PlS.agree {s : kS} (h : PlS σ st sp tk sf ss) (hs : ∀ o k, o = 12 ∨ (58 ≤ o ∧ o ≤ 63) → s o k = σ o k) : PlS s st sp tk sf ss := by
  obtain ⟨p1, p2, p3, p4⟩ := h
  refine ⟨by rw [hs _ _ (by omega)]; exact p1, fun k hk => ?_, fun x hx => ?_, fun j hj => ?_⟩
  · rw [hs _ _ (by omega), hs _ _ (by omega), hs _ _ (by omega), hs _ _ (by omega)]; exact p2 k hk
  · rw [hs _ _ (by omega)]; exact p3 x hx
  · rw [hs _ _ (by omega)]; exact p4 j hj
/-- the reference's state -/
def RR (s : kS) (n c ar st rl : Nat) (li fs sn lv od rg : Nat → Nat) (tr lo wt sp tk : Nat → Int) (sf ss : Nat → Nat) (mv sx : Int) : Prop :=
  RM s n c ar li fs sn lv tr lo ∧ RO s n od ∧ (∀ v, s 70 v = wt v) ∧ rgM s rl rg ∧ s 14 16 = mv ∧ PlM s st sp tk sf ss ∧ s 14 0 = sx
theorem RR.agree {s : kS} (h : RR σ n c ar st rl li fs sn lv od rg tr lo wt sp tk sf ss mv sx) (hs : ∀ o k, (70 ≤ o ∧ o ≤ 84) ∨ (o = 14 ∧ k ≤ 17) → s o k = σ o k) : RR s n c ar st rl li fs sn lv od rg tr lo wt sp tk sf ss mv sx := by
  obtain ⟨r1, r2, r3, r4, r5, r6, r7⟩ := h
  refine ⟨r1.agree (fun o k ho => hs o k (by omega)), ⟨fun p hp => by rw [hs _ _ (by omega)]; exact r2.1 p hp, fun p hp => by rw [hs _ _ (by omega)]; exact r2.2.1 p hp, r2.2.2⟩, fun v => by rw [hs _ _ (by omega)]; exact r3 v, ⟨by rw [hs _ _ (by omega)]; exact r4.1, fun k hk => by rw [hs _ _ (by omega)]; exact r4.2 k hk⟩, by rw [hs _ _ (by omega)]; exact r5, r6.agree (fun o k ho => hs o k (by omega)), by rw [hs _ _ (by omega)]; exact r7⟩
/-- all of it, the ages below A -/
def JV (s : kS) (A : Int) : Prop := ∃ (n c ar st rl : Nat) (li fs sn lv od rt dp rg : Nat → Nat) (tr lo wt sp tk pa up : Nat → Int) (sf ss : Nat → Nat) (mv sx : Int) (S : Nat → Prop),
  GO n c ar li fs sn lv od tr lo wt S ∧ CR s n c ar rl li fs sn lv od rt dp rg tr lo wt pa up mv sx S ∧ PlS s st sp tk sf ss ∧ plOk n c st li sp tk sf ss ∧ RR s n c ar st rl li fs sn lv od rg tr lo wt sp tk sf ss mv sx ∧ rl ≤ 300 ∧ s 1 5 ≤ A
/-- the class's outcome beside the reference's -/
def outc (thr : Nat → Int) (r : kR) (r' : Option kV) (s' : kS) : Prop := (∃ z, r = rR (some z) ∧ r' = some z ∧ s' 14 22 = 0) ∨ ∃ pc, r = rT pc ∧ s' 14 22 = thr pc ∧ 0 < thr pc
/-- behind the class's call: what the reference then does -/
def refC (F : kFn) (vs : List kV) (A : Int) (thr : Nat → Int) (r : kR) (s : kS) : Prop := ∀ y : Int, wpF F vs (kup s 110 0 y) (fun r' s' => JV s' A ∧ s' 110 0 = y ∧ outc thr r r' s')
theorem refC_ask {s : kS} {A : Int} {F : kFn} {vs : List kV} {thr : Nat → Int} {r : kR} (hg : GO n c ar li fs sn lv od tr lo wt S) (hC : CR s n c ar rl li fs sn lv od rt dp rg tr lo wt pa up mv sx S) (hP : PlS s st sp tk sf ss) (hO : plOk n c st li sp tk sf ss) (hR : RR s n c ar st rl li fs sn lv od rg tr lo wt sp tk sf ss mv sx) (hrl : rl ≤ 300) (hA : s 1 5 ≤ A)
    (h : ∀ s2, RR s2 n c ar st rl li fs sn lv od rg tr lo wt sp tk sf ss mv sx → wpF F vs s2 (fun r' s' => ∃ t : Int, sK (kup s2 14 22 t) s' ∧ ((∃ z, r = rR (some z) ∧ r' = some z ∧ t = 0) ∨ ∃ pc, r = rT pc ∧ t = thr pc ∧ 0 < thr pc))) : refC F vs A thr r s := by
  intro y
  refine (h (kup s 110 0 y) (hR.agree (fun o k ho => kup_other (by omega)))).mono ?_
  rintro r' s' ⟨t, hk, hr⟩
  have f1 : ∀ o k, ¬ mSc o k → (o ≠ 14 ∨ k ≠ 22) → o ≠ 110 → s' o k = s o k := fun o k h1 h2 h3 => by rw [hk o k h1, kup_other h2, kup_ne h3]
  have e22 : s' 14 22 = t := by rw [hk _ _ (by unfold mSc; omega), kup_eq, if_pos rfl]
  refine ⟨⟨n, c, ar, st, rl, li, fs, sn, lv, od, rt, dp, rg, tr, lo, wt, sp, tk, pa, up, sf, ss, mv, sx, S, hg, hC.agree (fun o k ho => f1 o k (by unfold mSc; omega) (by omega) (by omega)), hP.agree (fun o k ho => f1 o k (by unfold mSc; omega) (by omega) (by omega)), hO, hR.agree (fun o k ho => f1 o k (by unfold mSc; omega) (by omega) (by omega)), hrl, by rw [f1 _ _ (by unfold mSc; omega) (by decide) (by decide)]; exact hA⟩, ?_, ?_⟩
  · rw [hk _ _ (by unfold mSc; omega), kup_other (by omega), kup_eq, if_pos rfl]
  · rcases hr with ⟨z, h1, h2, h3⟩ | ⟨pc, h1, h2, h3⟩
    · exact Or.inl ⟨z, h1, h2, e22.trans h3⟩
    · exact Or.inr ⟨pc, h1, e22.trans h2, h3⟩
end JO
