/-! THE CLASS'S JOINER joins -/
section JN2
variable {σ : kS} {n : Nat} {A : Nat → Nat → Prop} {ov tu hd ht sd : Nat → Nat} {od : Nat → Prop}
def addP (A : Nat → Nat → Prop) (a b u v : Nat) : Prop := A u v ∨ (u = a ∧ v = b)
/-- a pair within a part -/
theorem jnOk.same {a b : Nat} {od' : Nat → Prop} (h : jnOk n A ov tu hd ht sd od) (ha : a < n) (hb : b < n) (he : hd a = hd b) (ho : ∀ v, od' v ↔ (od v ∨ (v = hd a ∧ (sd a + sd b) % 2 = 0))) : jnOk n (addP A a b) ov tu hd ht sd od' := by
  obtain ⟨h1, h2, h3, h4, h5, h6⟩ := h
  have wk : ∀ k f, prop2 (addP A a b) hd k f → prop2 A hd k f := fun k f hf u v huv hk => hf u v (Or.inl huv) hk
  refine ⟨h1, fun u v huv => ?_, fun u v hu hv e => (h3 u v hu hv e).mono (fun x y hxy => hxy.imp Or.inl Or.inl), fun f v hv hf => h4 f v hv (wk _ _ hf), fun k hk hkk hok => ?_, fun u v huv hno => ?_⟩
  · rcases huv with w | ⟨rfl, rfl⟩
    · exact h2 u v w
    · exact ⟨ha, hb, he⟩
  · rintro ⟨f, hf⟩
    rcases (ho k).mp hok with w | ⟨w1, w2⟩
    · exact h5 k hk hkk w ⟨f, wk _ _ hf⟩
    · have e1 := h4 f a ha (by rw [← w1]; exact wk _ _ hf)
      have e2 := h4 f b hb (by rw [← he, ← w1]; exact wk _ _ hf)
      rw [← he] at e2
      have e3 := hf a b (Or.inr ⟨rfl, rfl⟩) w1.symm
      omega
  · have hno1 : ¬ od (hd u) := fun q => hno ((ho _).mpr (Or.inl q))
    rcases huv with w | ⟨rfl, rfl⟩
    · exact h6 u v w hno1
    · have : ¬ (sd u + sd v) % 2 = 0 := fun q => hno ((ho _).mpr (Or.inr ⟨rfl, q⟩))
      omega
/-- a pair that makes one part of two -/
theorem jnOk.merge {a b lw up z : Nat} {ov' tu' hd' ht' sd' : Nat → Nat} {od' : Nat → Prop} (h : jnOk n A ov tu hd ht sd od) (ha : a < n) (hb : b < n) (hlu : (hd a = lw ∧ hd b = up) ∨ (hd a = up ∧ hd b = lw)) (hne : lw ≠ up) (hsz : cntP (fun u => hd u = lw) n ≤ cntP (fun u => hd u = up) n) (hz : z = (sd a + sd b + 1) % 2)
    (e1 : ∀ v, ov' v = if v = lw then up else ov v) (e2 : ∀ v, tu' v = if v = lw then z else tu v) (e3 : ∀ v, hd' v = if hd v = lw then up else hd v) (e4 : ∀ v, ht' v = if hd v = lw then ht v + 1 else ht v) (e5 : ∀ v, sd' v = if hd v = lw then (sd v + z) % 2 else sd v) (e6 : ∀ v, od' v ↔ (od v ∨ (v = up ∧ od lw))) :
    jnOk n (addP A a b) ov' tu' hd' ht' sd' od' ∧ cntP (fun u => hd' u = up) n = cntP (fun u => hd u = up) n + cntP (fun u => hd u = lw) n ∧ (∀ k, k ≠ lw → k ≠ up → cntP (fun u => hd' u = k) n = cntP (fun u => hd u = k) n) := by
  obtain ⟨h1, h2, h3, h4, h5, h6⟩ := h
  have hlw : lw < n ∧ hd lw = lw := by rcases hlu with ⟨q, -⟩ | ⟨-, q⟩ <;> (rw [← q]; exact ⟨(h1 _ (by assumption)).2.1, (h1 _ (by assumption)).2.2.1⟩)
  have hup : up < n ∧ hd up = up := by rcases hlu with ⟨-, q⟩ | ⟨q, -⟩ <;> (rw [← q]; exact ⟨(h1 _ (by assumption)).2.1, (h1 _ (by assumption)).2.2.1⟩)
  have slw := (h1 lw hlw.1)
  have sup := (h1 up hup.1)
  have s1 : ∀ w, w < n → sd w ≤ 1 := by
    intro w hw
    rcases (h1 w hw).2.2.2.2.1 with ⟨-, -, -, q⟩ | ⟨-, -, -, q⟩ <;> omega
  have ovl : ov lw = lw ∧ sd lw = 0 ∧ ht lw = 0 := by
    rcases slw.2.2.2.2.1 with ⟨q1, -, q3, q4⟩ | ⟨-, q, -⟩
    · exact ⟨q1, q4, q3⟩
    · exact absurd hlw.2 q
  have ovu : ov up = up ∧ sd up = 0 ∧ ht up = 0 := by
    rcases sup.2.2.2.2.1 with ⟨q1, -, q3, q4⟩ | ⟨-, q, -⟩
    · exact ⟨q1, q4, q3⟩
    · exact absurd hup.2 q
  have cU : cntP (fun u => hd' u = up) n = cntP (fun u => hd u = up) n + cntP (fun u => hd u = lw) n := by
    rw [← cntP_sum (P := fun u => hd u = up) (Q := fun u => hd u = lw) (fun k _ q => hne (by rw [← q.2, q.1]))]
    refine cntP_congr (fun k _ => ?_)
    rw [e3]
    by_cases q : hd k = lw
    · simp [q]
    · simp [q]
  have cO : ∀ k, k ≠ lw → k ≠ up → cntP (fun u => hd' u = k) n = cntP (fun u => hd u = k) n := by
    intro k k1 k2
    refine cntP_congr (fun u _ => ?_)
    rw [e3]
    by_cases q : hd u = lw
    · rw [if_pos q, q]; exact ⟨fun w => absurd w.symm k2, fun w => absurd w.symm k1⟩
    · rw [if_neg q]
  have hd'n : ∀ v, v < n → hd' v ≠ lw := by
    intro v hv
    rw [e3]
    split
    · exact fun q => hne q.symm
    · assumption
  have key : ∀ v, v < n → (hd' v = up ↔ (hd v = lw ∨ hd v = up)) := by
    intro v hv; rw [e3]
    by_cases q : hd v = lw
    · simp [q]
    · simp [q]
  have pl : ∀ f, prop2 (addP A a b) hd' up f → prop2 A hd lw f ∧ prop2 A hd up f ∧ (f a + f b) % 2 = 1 := by
    intro f hf
    refine ⟨fun u v huv hk => hf u v (Or.inl huv) ((key u (h2 u v huv).1).mpr (Or.inl hk)), fun u v huv hk => hf u v (Or.inl huv) ((key u (h2 u v huv).1).mpr (Or.inr hk)), hf a b (Or.inr ⟨rfl, rfl⟩) ((key a ha).mpr (hlu.imp (fun q => q.1) (fun q => q.1)))⟩
  have po : ∀ k f, k ≠ lw → k ≠ up → prop2 (addP A a b) hd' k f → prop2 A hd k f := by
    intro k f k1 k2 hf u v huv hk
    refine hf u v (Or.inl huv) ?_
    rw [e3, if_neg (by rw [hk]; exact k1)]; exact hk
  have ftu : ∀ f, prop2 (addP A a b) hd' up f → (f lw + f up) % 2 = z := by
    intro f hf
    obtain ⟨p1, p2, p3⟩ := pl f hf
    rcases hlu with ⟨q1, q2⟩ | ⟨q1, q2⟩
    · have a1 := h4 f a ha (by rw [q1]; exact p1)
      have a2 := h4 f b hb (by rw [q2]; exact p2)
      rw [q1] at a1; rw [q2] at a2
      omega
    · have a1 := h4 f a ha (by rw [q1]; exact p2)
      have a2 := h4 f b hb (by rw [q2]; exact p1)
      rw [q1] at a1; rw [q2] at a2
      omega
  refine ⟨⟨fun v hv => ?_, fun u v huv => ?_, fun u v hu hv e => ?_, fun f v hv hf => ?_, fun k hk hkk hok => ?_, fun u v huv hno => ?_⟩, cU, cO⟩
  · obtain ⟨g1, g2, g3, g4, g5, g6, g7⟩ := h1 v hv
    have hov : v ≠ lw → hd (ov v) = hd v := fun _ => g4
    by_cases hv1 : v = lw
    · subst hv1
      have eu : hd' v = up := by rw [e3, if_pos hlw.2]
      have eo : ov' v = up := by rw [e1, if_pos rfl]
      have eup : hd' up = up := by rw [e3, if_neg (by rw [hup.2]; exact fun q => hne q.symm)]; exact hup.2
      have etu : ht' up = ht up := by rw [e4, if_neg (by rw [hup.2]; exact fun q => hne q.symm)]
      have esu : sd' up = sd up := by rw [e5, if_neg (by rw [hup.2]; exact fun q => hne q.symm)]
      have eht : ht' v = ht v + 1 := by rw [e4, if_pos hlw.2]
      have esd : sd' v = (sd v + z) % 2 := by rw [e5, if_pos hlw.2]
      have ett : tu' v = z := by rw [e2, if_pos rfl]
      have s7 := sup.2.2.2.2.2.2
      rw [eo, eu, eup, eht, etu, esd, esu, ett, cU]
      rw [hlw.2] at g7
      rw [hup.2] at s7
      refine ⟨hup.1, hup.1, rfl, rfl, Or.inr ⟨fun q => hne q.symm, fun q => hne q.symm, by omega, by omega⟩, by omega, by omega⟩
    · have eo : ov' v = ov v := by rw [e1, if_neg hv1]
      have ett : tu' v = tu v := by rw [e2, if_neg hv1]
      rw [eo, ett]
      have h7 : ∀ w, w < n → hd' (hd' w) = hd' w := by
        intro w hw
        rw [e3 w]
        split
        · rw [e3, if_neg (by rw [hup.2]; exact fun q => hne q.symm)]; exact hup.2
        · rename_i q
          have := (h1 w hw).2.2.1
          rw [e3, this, if_neg q]
      have h8 : hd' (ov v) = hd' v := by rw [e3, e3, g4]
      refine ⟨g1, ?_, h7 v hv, h8, ?_, g6, ?_⟩
      · rw [e3]; split
        · exact hup.1
        · exact g2
      · rcases g5 with ⟨q1, q2, q3, q4⟩ | ⟨q1, q2, q3, q4⟩
        · left
          have hnl : ¬ hd v = lw := by rw [q2]; exact hv1
          exact ⟨q1, by rw [e3, if_neg hnl]; exact q2, by rw [e4, if_neg hnl]; exact q3, by rw [e5, if_neg hnl]; exact q4⟩
        · right
          refine ⟨q1, ?_, ?_, ?_⟩
          · rw [e3]
            split
            · intro q
              rw [← q] at q2
              exact q2 hup.2
            · exact q2
          · rw [e4, e4, g4]; split <;> omega
          · rw [e5, e5, g4]; split <;> omega
      · by_cases q : hd v = lw
        · have eh : hd' v = up := by rw [e3, if_pos q]
          rw [eh, cU, e4, if_pos q]
          rw [q] at g7
          have s7 := sup.2.2.2.2.2.2
          rw [hup.2] at s7
          omega
        · rw [e4, if_neg q]
          by_cases q2 : hd v = up
          · have eh : hd' v = up := by rw [e3, if_neg q]; exact q2
            rw [eh, cU]
            rw [q2] at g7
            omega
          · have eh : hd' v = hd v := by rw [e3, if_neg q]
            rw [eh, cO _ q q2]; exact g7
  · rcases huv with w | ⟨rfl, rfl⟩
    · obtain ⟨q1, q2, q3⟩ := h2 u v w
      exact ⟨q1, q2, by rw [e3, e3, q3]⟩
    · refine ⟨ha, hb, ?_⟩
      rw [(key u ha).mpr (hlu.imp (fun q => q.1) (fun q => q.1)), (key v hb).mpr (hlu.symm.imp (fun q => q.2) (fun q => q.2))]
  · have up0 : ∀ x y, rch (jE A) x y → rch (jE (addP A a b)) x y := fun x y q => q.mono (fun _ _ w => w.imp Or.inl Or.inl)
    have lu : rch (jE (addP A a b)) lw up := by
      have ab : rch (jE (addP A a b)) a b := rch.one (Or.inl (Or.inr ⟨rfl, rfl⟩))
      rcases hlu with ⟨q1, q2⟩ | ⟨q1, q2⟩
      · exact ((up0 _ _ (h3 lw a hlw.1 ha (by rw [hlw.2, q1]))).trans ab).trans (up0 _ _ (h3 b up hb hup.1 (by rw [hup.2, q2])))
      · exact ((up0 _ _ (h3 lw b hlw.1 hb (by rw [hlw.2, q2]))).trans (jE.rsymm ab)).trans (up0 _ _ (h3 a up ha hup.1 (by rw [hup.2, q1])))
    by_cases q1 : hd u = lw <;> by_cases q2 : hd v = lw
    · exact up0 _ _ (h3 u v hu hv (by rw [q1, q2]))
    · rw [e3, e3, if_pos q1, if_neg q2] at e
      exact ((up0 _ _ (h3 u lw hu hlw.1 (by rw [q1, hlw.2]))).trans lu).trans (up0 _ _ (h3 up v hup.1 hv (by rw [hup.2, e])))
    · rw [e3, e3, if_neg q1, if_pos q2] at e
      exact (up0 _ _ (h3 u up hu hup.1 (by rw [hup.2, e]))).trans ((jE.rsymm lu).trans (up0 _ _ (h3 lw v hlw.1 hv (by rw [q2, hlw.2]))))
    · rw [e3, e3, if_neg q1, if_neg q2] at e
      exact up0 _ _ (h3 u v hu hv e)
  · by_cases q : hd v = lw
    · have eh : hd' v = up := by rw [e3, if_pos q]
      rw [eh] at hf ⊢
      have a1 := h4 f v hv (by rw [q]; exact (pl f hf).1)
      have a2 := ftu f hf
      rw [q] at a1
      rw [e5, if_pos q]
      omega
    · rw [e5, if_neg q]
      by_cases q2 : hd v = up
      · have eh : hd' v = up := by rw [e3, if_neg q]; exact q2
        rw [eh] at hf ⊢
        have a1 := h4 f v hv (by rw [q2]; exact (pl f hf).2.1)
        rw [q2] at a1; exact a1
      · have eh : hd' v = hd v := by rw [e3, if_neg q]
        rw [eh] at hf ⊢
        exact h4 f v hv (po _ _ q q2 hf)
  · rintro ⟨f, hf⟩
    have hkl : k ≠ lw := fun e => hd'n k hk (by rw [hkk, e])
    have hkh : hd k = k := by
      have := e3 k
      rw [hkk] at this
      split at this
      · rename_i q; rw [← this] at hup; exact hup.2
      · exact this.symm
    by_cases q2 : k = up
    · subst q2
      obtain ⟨p1, p2, -⟩ := pl f hf
      rcases (e6 k).mp hok with w | ⟨-, w⟩
      · exact h5 k hk hkh w ⟨f, p2⟩
      · exact h5 lw hlw.1 hlw.2 w ⟨f, p1⟩
    · rcases (e6 k).mp hok with w | ⟨w, -⟩
      · exact h5 k hk hkh w ⟨f, po _ _ hkl q2 hf⟩
      · exact q2 w
  · have no1 : ∀ w, w < n → hd' w = hd' u → ¬ od (hd w) := by
      intro w hw ew hod
      refine hno ((e6 _).mpr ?_)
      rw [← ew]
      by_cases q : hd w = lw
      · right; exact ⟨by rw [e3, if_pos q], by rw [← q]; exact hod⟩
      · left; rw [e3, if_neg q]; exact hod
    rcases huv with w | ⟨rfl, rfl⟩
    · obtain ⟨q1, q2, q3⟩ := h2 u v w
      have := h6 u v w (no1 u q1 rfl)
      rw [e5, e5, ← q3]
      split <;> omega
    · have sa := s1 _ ha
      have sb := s1 _ hb
      rw [e5, e5]
      rcases hlu with ⟨q1, q2⟩ | ⟨q1, q2⟩
      · rw [if_pos q1, if_neg (by rw [q2]; exact fun q => hne q.symm)]; omega
      · rw [if_neg (by rw [q1]; exact fun q => hne q.symm), if_pos q2]; omega
end JN2
