/-! STRONG PARTS: the search that leaves nodes -/
section SL
variable {σ : kS} {n c ar : Nat} {li fs sn Fo So S L : Nat → Nat} {cu : Nat → Int} {h lc : Nat}
/-- position k of the fan is behind its node's cursor -/
def psd (n : Nat) (So : Nat → Nat) (cu : Nat → Int) (k : Nat) : Prop := ∃ v, v < n ∧ So v ≤ k ∧ (k : Int) < cu v
/-- the search's state: cursors, the stack, what is left -/
def dfI (n c : Nat) (li fs sn Fo So : Nat → Nat) (cu : Nat → Int) (S L : Nat → Nat) (h lc : Nat) : Prop :=
  ((∀ i, i < h → S i < n) ∧ (∀ i, i < lc → L i < n)) ∧ ((∀ i j, i < j → j < h → S i ≠ S j) ∧ (∀ i j, i < j → j < lc → L i ≠ L j) ∧ (∀ i j, i < h → j < lc → S i ≠ L j)) ∧
  (∀ v, v < n → cu v = -1 ∨ ((So v : Int) ≤ cu v ∧ cu v ≤ (So (v + 1) : Int))) ∧ (∀ v, v < n → (cu v ≠ -1 ↔ (∃ i, i < h ∧ S i = v) ∨ ∃ i, i < lc ∧ L i = v)) ∧
  (∀ i, i < lc → cu (L i) = (So (L i + 1) : Int)) ∧ (∀ v k : Nat, v < n → So v ≤ k → (k : Int) < cu v → cu (sn (Fo k)) ≠ -1) ∧ (∀ i, i + 1 < h → dE (th c li) fs sn (S i) (S (i + 1))) ∧
  (∀ i v, i < lc → dE (th c li) fs sn (L i) v → (∃ j, j ≤ i ∧ L j = v) ∨ (∃ j, i < j ∧ j < lc ∧ L j = v ∧ ∀ k, i ≤ k → k ≤ j → rch (dE (th c li) fs sn) v (L k)) ∨ (∃ j, j < h ∧ S j = v ∧ ∀ k, i ≤ k → k < lc → rch (dE (th c li) fs sn) v (L k)))
theorem dfI.chain (hD : dfI n c li fs sn Fo So cu S L h lc) {i : Nat} : ∀ {j : Nat}, i ≤ j → j < h → rch (dE (th c li) fs sn) (S i) (S j) := by
  intro j
  induction j with
  | zero => intro h1 _; have : i = 0 := by omega
            subst this; exact rch.rfl' _
  | succ j ih =>
    intro h1 h2
    by_cases e : i = j + 1
    · subst e; exact rch.rfl' _
    · exact (ih (by omega) (by omega)).snoc (hD.2.2.2.2.2.2.1 j h2)
theorem dfI.start {v : Nat} (hD : dfI n c li fs sn Fo So cu S L 0 lc) (hf : So v ≤ So (v + 1)) (hv : v < n) (hc : cu v = -1) : dfI n c li fs sn Fo So (fun u => if u = v then (So v : Int) else cu u) (fun _ => v) L 1 lc := by
  obtain ⟨⟨-, a2⟩, ⟨-, b2, -⟩, c1, d1, e1, f1, -, g1⟩ := hD
  have nl : ∀ i, i < lc → L i ≠ v := fun i hi q => ((d1 v hv).mpr (Or.inr ⟨i, hi, q⟩)) hc
  refine ⟨⟨fun _ _ => hv, a2⟩, ⟨fun i j h1 h2 => by omega, b2, fun i j _ hj => (nl j hj).symm⟩, fun u hu => ?_, fun u hu => ?_, fun i hi => ?_, fun u k hu hk1 hk2 => ?_, fun i hi => by omega, fun i u hi he => ?_⟩ <;> try dsimp only at *
  · by_cases e : u = v
    · subst e; rw [if_pos rfl]; exact Or.inr ⟨Int.le_refl _, by omega⟩
    · rw [if_neg e]; exact c1 u hu
  · by_cases e : u = v
    · subst e; rw [if_pos rfl]; exact ⟨fun _ => Or.inl ⟨0, by omega, rfl⟩, fun _ => by omega⟩
    · rw [if_neg e, d1 u hu]
      refine ⟨fun q => Or.inr (q.resolve_left (fun ⟨i, hi, _⟩ => absurd hi (by omega))), fun q => Or.inr (q.resolve_left (fun ⟨i, _, hi⟩ => e hi.symm))⟩
  · rw [if_neg (nl i hi)]; exact e1 i hi
  · by_cases e : u = v
    · subst e; rw [if_pos rfl] at hk2; omega
    · rw [if_neg e] at hk2
      by_cases e2 : sn (Fo k) = v
      · rw [if_pos e2]; omega
      · rw [if_neg e2]; exact f1 u k hu hk1 hk2
  · rcases g1 i u hi he with q | q | ⟨j, hj, -⟩
    · exact Or.inl q
    · exact Or.inr (Or.inl q)
    · exact absurd hj (by omega)
/-- a cursor goes on to a node that was met -/
theorem dfI.adv {k p y : Nat} (hD : dfI n c li fs sn Fo So cu S L h lc) (hp : p < h) (hy : S p = y) (hk : cu y = (k : Int)) (hk2 : k < So (y + 1)) (hm : cu (sn (Fo k)) ≠ -1) :
    dfI n c li fs sn Fo So (fun u => if u = y then (k : Int) + 1 else cu u) S L h lc := by
  obtain ⟨⟨a1, a2⟩, ⟨b1, b2, b3⟩, c1, d1, e1, f1, g0, g1⟩ := hD
  have hn := a1 p hp
  subst hy
  refine ⟨⟨a1, a2⟩, ⟨b1, b2, b3⟩, fun u hu => ?_, fun u hu => ?_, fun i hi => ?_, fun u k' hu hk1 hk2 => ?_, g0, g1⟩ <;> try dsimp only at *
  · by_cases e : u = S p
    · rw [if_pos e, e]
      rcases c1 _ hn with q | q
      · omega
      · exact Or.inr ⟨by omega, by omega⟩
    · rw [if_neg e]; exact c1 u hu
  · by_cases e : u = S p
    · rw [if_pos e]; exact ⟨fun _ => Or.inl ⟨p, hp, e.symm⟩, fun _ => by omega⟩
    · rw [if_neg e]; exact d1 u hu
  · rw [if_neg (fun q => b3 p i hp hi q.symm)]; exact e1 i hi
  · have key : cu (sn (Fo k')) ≠ -1 := by
      by_cases e : u = S p
      · rw [if_pos e] at hk2
        by_cases e2 : k' = k
        · rw [e2]; exact hm
        · exact f1 u k' hu hk1 (by rw [e]; omega)
      · rw [if_neg e] at hk2; exact f1 u k' hu hk1 hk2
    by_cases e2 : sn (Fo k') = S p
    · rw [if_pos e2]; omega
    · rw [if_neg e2]; exact key
/-- a node met anew -/
theorem dfI.push {w : Nat} (hD : dfI n c li fs sn Fo So cu S L (h + 1) lc) (hf : So w ≤ So (w + 1)) (hw : w < n) (hc : cu w = -1) (he : dE (th c li) fs sn (S h) w) :
    dfI n c li fs sn Fo So (fun u => if u = w then (So w : Int) else cu u) (fun i => if i = h + 1 then w else S i) L (h + 2) lc := by
  obtain ⟨⟨a1, a2⟩, ⟨b1, b2, b3⟩, c1, d1, e1, f1, g0, g1⟩ := hD
  have nl : ∀ i, i < lc → L i ≠ w := fun i hi q => ((d1 w hw).mpr (Or.inr ⟨i, hi, q⟩)) hc
  have ns : ∀ i, i < h + 1 → S i ≠ w := fun i hi q => ((d1 w hw).mpr (Or.inl ⟨i, hi, q⟩)) hc
  refine ⟨⟨fun i hi => ?_, a2⟩, ⟨fun i j hij hj => ?_, b2, fun i j hi hj => ?_⟩, fun u hu => ?_, fun u hu => ?_, fun i hi => ?_, fun u k hu hk1 hk2 => ?_, fun i hi => ?_, fun i u hi he => ?_⟩ <;> try dsimp only at *
  · split
    · exact hw
    · exact a1 i (by omega)
  · rw [if_neg (show i ≠ h + 1 by omega)]
    split
    · exact ns i (by omega)
    · exact b1 i j hij (by omega)
  · split
    · exact (nl j hj).symm
    · exact b3 i j (by omega) hj
  · by_cases e : u = w
    · subst e; rw [if_pos rfl]; exact Or.inr ⟨Int.le_refl _, by omega⟩
    · rw [if_neg e]; exact c1 u hu
  · by_cases e : u = w
    · subst e; rw [if_pos rfl]; exact ⟨fun _ => Or.inl ⟨h + 1, by omega, by rw [if_pos rfl]⟩, fun _ => by omega⟩
    · rw [if_neg e, d1 u hu]
      refine or_congr ⟨fun ⟨i, hi, q⟩ => ⟨i, by omega, by rw [if_neg (by omega)]; exact q⟩, fun ⟨i, hi, q⟩ => ?_⟩ Iff.rfl
      by_cases e2 : i = h + 1
      · rw [if_pos e2] at q; exact absurd q.symm e
      · rw [if_neg e2] at q; exact ⟨i, by omega, q⟩
  · rw [if_neg (nl i hi)]; exact e1 i hi
  · by_cases e : u = w
    · subst e; rw [if_pos rfl] at hk2; omega
    · rw [if_neg e] at hk2
      by_cases e2 : sn (Fo k) = w
      · rw [if_pos e2]; omega
      · rw [if_neg e2]; exact f1 u k hu hk1 hk2
  · rw [if_neg (show i ≠ h + 1 by omega)]
    by_cases e : i + 1 = h + 1
    · have : i = h := by omega
      subst this
      rw [if_pos rfl]; exact he
    · rw [if_neg e]; exact g0 i (by omega)
  · rcases g1 i u hi he with q | q | ⟨j, hj, q1, q2⟩
    · exact Or.inl q
    · exact Or.inr (Or.inl q)
    · exact Or.inr (Or.inr ⟨j, by omega, by rw [if_neg (by omega)]; exact q1, q2⟩)
/-- the top is left -/
theorem dfI.pop (hG : gOk n c ar li fs sn) (hF : fanOk n c li fs Fo So) (hD : dfI n c li fs sn Fo So cu S L (h + 1) lc) (hk : cu (S h) = (So (S h + 1) : Int)) :
    dfI n c li fs sn Fo So cu S (fun i => if i = lc then S h else L i) h (lc + 1) := by
  have hch := @dfI.chain _ _ _ _ _ _ _ _ _ _ _ _ hD
  obtain ⟨⟨a1, a2⟩, ⟨b1, b2, b3⟩, c1, d1, e1, f1, g0, g1⟩ := hD
  have hn := a1 h (by omega)
  refine ⟨⟨fun i hi => a1 i (by omega), fun i hi => ?_⟩, ⟨fun i j hij hj => b1 i j hij (by omega), fun i j hij hj => ?_, fun i j hi hj => ?_⟩, c1, fun u hu => ?_, fun i hi => ?_, f1, fun i hi => g0 i (by omega), fun i u hi he => ?_⟩ <;> try dsimp only at *
  · split
    · exact hn
    · exact a2 i (by omega)
  · rw [if_neg (show i ≠ lc by omega)]
    split
    · exact fun q => b3 h i (by omega) (by omega) q.symm
    · exact b2 i j hij (by omega)
  · split
    · exact b1 i h hi (by omega)
    · exact b3 i j (by omega) (by omega)
  · rw [d1 u hu]
    constructor
    · rintro (⟨i, hi, q⟩ | ⟨i, hi, q⟩)
      · by_cases e : i = h
        · subst e; exact Or.inr ⟨lc, by omega, by rw [if_pos rfl]; exact q⟩
        · exact Or.inl ⟨i, by omega, q⟩
      · exact Or.inr ⟨i, by omega, by rw [if_neg (by omega)]; exact q⟩
    · rintro (⟨i, hi, q⟩ | ⟨i, hi, q⟩)
      · exact Or.inl ⟨i, by omega, q⟩
      · by_cases e : i = lc
        · rw [if_pos e] at q; exact Or.inl ⟨h, by omega, q⟩
        · rw [if_neg e] at q; exact Or.inr ⟨i, by omega, q⟩
  · by_cases e : i = lc
    · rw [if_pos e]; exact hk
    · rw [if_neg e]; exact e1 i (by omega)
  · by_cases e : i = lc
    · -- the node left now: all that follow it are met
      subst e
      rw [if_pos rfl] at he
      have hme : cu u ≠ -1 := by
        obtain ⟨x, ⟨j, hj, hx⟩, x1, x2⟩ := he
        obtain ⟨p, p1, p2⟩ := hF.2.2.2.2.2 j hj
        have hp : fs (Fo p) = S h := by rw [p2, hx]; exact x1
        obtain ⟨y1, y2⟩ := (fan_at hF p1 hn).mp hp
        have := f1 (S h) p hn y1 (by rw [hk]; omega)
        rw [p2, hx, x2] at this
        exact this
      have hu : u < n := by
        obtain ⟨x, hx, x1, x2⟩ := he
        have := th_lt hG hx
        omega
      rcases (d1 u hu).mp hme with ⟨j, hj, q⟩ | ⟨j, hj, q⟩
      · by_cases ej : j = h
        · subst ej; exact Or.inl ⟨i, Nat.le_refl _, by rw [if_pos rfl]; exact q⟩
        · refine Or.inr (Or.inr ⟨j, by omega, q, fun k k1 k2 => ?_⟩)
          have : k = i := by omega
          rw [if_pos this, ← q]
          exact hch (by omega) (by omega)
      · exact Or.inl ⟨j, by omega, by rw [if_neg (by omega)]; exact q⟩
    · rw [if_neg e] at he
      rcases g1 i u (by omega) he with ⟨j, q1, q2⟩ | ⟨j, q1, q2, q3, q4⟩ | ⟨j, hj, q1, q2⟩
      · exact Or.inl ⟨j, q1, by rw [if_neg (by omega)]; exact q2⟩
      · refine Or.inr (Or.inl ⟨j, q1, by omega, by rw [if_neg (by omega)]; exact q3, fun k k1 k2 => by rw [if_neg (by omega)]; exact q4 k k1 k2⟩)
      · by_cases ej : j = h
        · subst ej
          refine Or.inr (Or.inl ⟨lc, by omega, by omega, by rw [if_pos rfl]; exact q1, fun k k1 k2 => ?_⟩)
          by_cases ek : k = lc
          · rw [if_pos ek, q1]; exact rch.rfl' _
          · rw [if_neg ek]; exact q2 k k1 (by omega)
        · refine Or.inr (Or.inr ⟨j, by omega, q1, fun k k1 k2 => ?_⟩)
          by_cases ek : k = lc
          · rw [if_pos ek, ← q1]; exact hch (by omega) (by omega)
          · rw [if_neg ek]; exact q2 k k1 (by omega)
theorem dfI.len (hD : dfI n c li fs sn Fo So cu S L h lc) : h ≤ n ∧ lc ≤ n := by
  obtain ⟨⟨a1, a2⟩, ⟨b1, b2, b3⟩, -⟩ := hD
  constructor
  · refine Nat.le_trans (cntP_row (P := fun _ => True) (n := n) (q := S) (fun i hi => ⟨a1 i hi, trivial⟩) (fun i j hi hj e => ?_)).1 cntP_bound
    rcases Nat.lt_trichotomy i j with r | r | r
    · exact absurd e (b1 i j r hj)
    · exact r
    · exact absurd e.symm (b1 j i r hi)
  · refine Nat.le_trans (cntP_row (P := fun _ => True) (n := n) (q := L) (fun i hi => ⟨a2 i hi, trivial⟩) (fun i j hi hj e => ?_)).1 cntP_bound
    rcases Nat.lt_trichotomy i j with r | r | r
    · exact absurd e (b2 i j r hj)
    · exact r
    · exact absurd e.symm (b2 j i r hi)
theorem psd_adv {v k : Nat} (hF : fanOk n c li fs Fo So) (hC : ∀ v, v < n → cu v = -1 ∨ ((So v : Int) ≤ cu v ∧ cu v ≤ (So (v + 1) : Int))) (hv : v < n) (hk : cu v = (k : Int)) (hk2 : k < So (v + 1)) : cntP (psd n So (fun u => if u = v then (k : Int) + 1 else cu u)) c = cntP (psd n So cu) c + 1 := by
  have hkc : k < c := Nat.lt_of_lt_of_le hk2 (fan_le hF (show v + 1 ≤ n by omega))
  have hsk : So v ≤ k := by
    rcases hC v hv with q | q <;> omega
  have huniq : ∀ u, u < n → So u ≤ k → k < So (u + 1) → u = v := fun u hu h1 h2 => ((fan_at hF hkc hu).mpr ⟨h1, h2⟩).symm.trans ((fan_at hF hkc hv).mpr ⟨hsk, hk2⟩)
  have hno : ¬ psd n So cu k := by
    rintro ⟨u, hu, h1, h2⟩
    have : u = v := huniq u hu h1 (by rcases hC u hu with q | q <;> omega)
    subst this
    omega
  rw [← cntP_insert hkc hno]
  refine cntP_congr (fun j _ => ?_)
  constructor
  · rintro ⟨u, hu, h1, h2⟩
    try dsimp only at h2
    by_cases e : u = v
    · rw [if_pos e] at h2
      by_cases e2 : j = k
      · exact Or.inr e2
      · exact Or.inl ⟨u, hu, h1, by rw [e]; omega⟩
    · rw [if_neg e] at h2
      exact Or.inl ⟨u, hu, h1, h2⟩
  · rintro (⟨u, hu, h1, h2⟩ | e)
    · refine ⟨u, hu, h1, ?_⟩
      try dsimp only
      by_cases e : u = v
      · rw [if_pos e]; rw [e] at h2; omega
      · rw [if_neg e]; exact h2
    · subst e
      exact ⟨v, hv, hsk, by simp only [if_true]; omega⟩
theorem psd_push {w : Nat} (hc : cu w = -1) : cntP (psd n So (fun u => if u = w then (So w : Int) else cu u)) c = cntP (psd n So cu) c := by
  refine cntP_congr (fun j _ => ?_)
  constructor
  · rintro ⟨u, hu, h1, h2⟩
    try dsimp only at h2
    by_cases e : u = w
    · rw [if_pos e] at h2; subst e; omega
    · rw [if_neg e] at h2; exact ⟨u, hu, h1, h2⟩
  · rintro ⟨u, hu, h1, h2⟩
    try dsimp only at h2
    refine ⟨u, hu, h1, ?_⟩
    try dsimp only
    by_cases e : u = w
    · subst e; omega
    · rw [if_neg e]; exact h2
/-- the search in the class's arrays -/
def dfS (s : kS) (n c : Nat) (li fs sn Fo So : Nat → Nat) (S L : Nat → Nat) (h lc : Nat) : Prop :=
  dfI n c li fs sn Fo So (s 44) S L h lc ∧ (∀ i, i < h → s 43 i = (S i : Int)) ∧ (∀ i, i < lc → s 42 i = (L i : Int)) ∧ s 8 5 = (lc : Int)
theorem strLeave_ok {v : Nat} (hG : gOk n c ar li fs sn) (hW : Wb σ n c ar li fs sn) (hFr : Fr σ 2 19 20 n c Fo So) (hF : fanOk n c li fs Fo So) (hv : v < n) (hD : dfS σ n c li fs sn Fo So S L 0 lc) (hc : σ 44 v = -1) :
    wpF F_Strong_leave [.inr (.inl 8), .inl (v : Int)] σ (fun r s => r = none ∧ (∀ o k, ¬ (42 ≤ o ∧ o ≤ 44) → (o ≠ 8 ∨ k ≠ 5) → s o k = σ o k) ∧ s 44 v ≠ -1 ∧ (∀ u, σ 44 u ≠ -1 → s 44 u ≠ -1) ∧ ∃ S L lc, dfS s n c li fs sn Fo So S L 0 lc) := by
  obtain ⟨hn3, hc9, ha5, hli, -⟩ := id hG
  obtain ⟨f1, f2, f3, f4⟩ := id hFr
  have hmono := hF.2.2.1
  obtain ⟨d0, d1, d2, d3⟩ := hD
  unfold F_Strong_leave
  rw [wpF_kF]
  refine ⟨rfl, rfl, ?_⟩
  unfold s_Strong_leave
  simp only [List.map_cons, List.map_nil]
  refine wpS_seq' (fun Q0 hQ0 => ?_)
  refine wpS_seq' (fun Q101 hQ101 => ?_)
  simp only [wpS_skip, wpS_break, wpS_cont, wpS_retV, wpS_throw, wpS_seq, wpS_if, wpS_trunc, yS_let, yS_inc, kgK_i, kgK_r, kok_nil, kok_i0, kok_is, kok_r0, kok_rs, kok_n0, kok_ns, xS_put, xS_putOp, xS_ast0, xS_ast1, xS_astOp, wpS_E, wpS_call, wpS_callS, wpS_ret, kThen_N, kThen_B, kThen_C, kThen_R, kThen_T, kNext_N, kNext_C, kNext_B, kNext_R, wpE_K, wpE_KL, xE_I, xE_R, wpE_J, xE_bin, wpE_ladd, wpE_i2l, xE_get, xE_ald0, xE_ald1, wpE_if, xE_max, xE_min, wpE_len, wpA_nil, wpA_snoc, xE_call, xE_callS, xC_C, xC_L, xC_Z, wpC_and, wpC_or, wpC_not, wpC_if, kcmp_0, kcmp_1, kcmp_2, kcmp_3, kcmp_4, kcmp_5, rR_inj, kgO_some, kgO_add, kgO_sub, kgO_mul, kgO_div, kgO_rem, kgO_and, kvI_inl, kvJ_inl, kgI_0, kgI_s, kgR_0, kgR_s, kst_nil, kst_0, kst_s, kNLl_nil, kNLl_i, kNLl_r, kNLl_n, ktag_i, ktag_r, List.length_cons, List.length_nil, List.take_succ_cons, List.take_zero, List.take_nil, List.nil_append, List.cons_append, decide_eq_true_eq, Bool.not_eq_true, Bool.not_eq_true', decide_eq_false_iff_not, ne_eq, Decidable.not_not, true_and, and_true, Nat.reduceAdd, Nat.reduceLeDiff, Nat.reduceEqDiff, Nat.le_refl, not_true_eq_false, not_false_eq_true, reduceIte, eq_self, Int.reduceNeg, Int.reduceEq, Int.reduceLT, Int.reduceLE, Nat.zero_le, Nat.one_ne_zero, ev_strong, ev_web]
  repeat refine And.intro (by omega) ?_
  rw [hQ101]
  clear hQ101 Q101
  refine kThen_N.mpr ?_
  have e20 := f4 v (by omega)
  refine wpS_seq' (fun Q102 hQ102 => ?_)
  simp only [wpS_skip, wpS_break, wpS_cont, wpS_retV, wpS_throw, wpS_seq, wpS_if, wpS_trunc, yS_let, yS_inc, kgK_i, kgK_r, kok_nil, kok_i0, kok_is, kok_r0, kok_rs, kok_n0, kok_ns, xS_put, xS_putOp, xS_ast0, xS_ast1, xS_astOp, wpS_E, wpS_call, wpS_callS, wpS_ret, kThen_N, kThen_B, kThen_C, kThen_R, kThen_T, kNext_N, kNext_C, kNext_B, kNext_R, wpE_K, wpE_KL, xE_I, xE_R, wpE_J, xE_bin, wpE_ladd, wpE_i2l, xE_get, xE_ald0, xE_ald1, wpE_if, xE_max, xE_min, wpE_len, wpA_nil, wpA_snoc, xE_call, xE_callS, xC_C, xC_L, xC_Z, wpC_and, wpC_or, wpC_not, wpC_if, kcmp_0, kcmp_1, kcmp_2, kcmp_3, kcmp_4, kcmp_5, rR_inj, kgO_some, kgO_add, kgO_sub, kgO_mul, kgO_div, kgO_rem, kgO_and, kvI_inl, kvJ_inl, kgI_0, kgI_s, kgR_0, kgR_s, kst_nil, kst_0, kst_s, kNLl_nil, kNLl_i, kNLl_r, kNLl_n, ktag_i, ktag_r, List.length_cons, List.length_nil, List.take_succ_cons, List.take_zero, List.take_nil, List.nil_append, List.cons_append, decide_eq_true_eq, Bool.not_eq_true, Bool.not_eq_true', decide_eq_false_iff_not, ne_eq, Decidable.not_not, true_and, and_true, Nat.reduceAdd, Nat.reduceLeDiff, Nat.reduceEqDiff, Nat.le_refl, not_true_eq_false, not_false_eq_true, reduceIte, eq_self, Int.reduceNeg, Int.reduceEq, Int.reduceLT, Int.reduceLE, Nat.zero_le, Nat.one_ne_zero, ev_strong, ev_strong_arr, ev_fout, ev_fout_arr, Int.toNat_natCast, e20]
  repeat refine And.intro (by omega) ?_
  rw [hQ102]
  clear hQ102 Q102
  refine kThen_N.mpr ?_
  refine wpS_seq' (fun Q103 hQ103 => ?_)
  simp only [wpS_skip, wpS_break, wpS_cont, wpS_retV, wpS_throw, wpS_seq, wpS_if, wpS_trunc, yS_let, yS_inc, kgK_i, kgK_r, kok_nil, kok_i0, kok_is, kok_r0, kok_rs, kok_n0, kok_ns, xS_put, xS_putOp, xS_ast0, xS_ast1, xS_astOp, wpS_E, wpS_call, wpS_callS, wpS_ret, kThen_N, kThen_B, kThen_C, kThen_R, kThen_T, kNext_N, kNext_C, kNext_B, kNext_R, wpE_K, wpE_KL, xE_I, xE_R, wpE_J, xE_bin, wpE_ladd, wpE_i2l, xE_get, xE_ald0, xE_ald1, wpE_if, xE_max, xE_min, wpE_len, wpA_nil, wpA_snoc, xE_call, xE_callS, xC_C, xC_L, xC_Z, wpC_and, wpC_or, wpC_not, wpC_if, kcmp_0, kcmp_1, kcmp_2, kcmp_3, kcmp_4, kcmp_5, rR_inj, kgO_some, kgO_add, kgO_sub, kgO_mul, kgO_div, kgO_rem, kgO_and, kvI_inl, kvJ_inl, kgI_0, kgI_s, kgR_0, kgR_s, kst_nil, kst_0, kst_s, kNLl_nil, kNLl_i, kNLl_r, kNLl_n, ktag_i, ktag_r, List.length_cons, List.length_nil, List.take_succ_cons, List.take_zero, List.take_nil, List.nil_append, List.cons_append, decide_eq_true_eq, Bool.not_eq_true, Bool.not_eq_true', decide_eq_false_iff_not, ne_eq, Decidable.not_not, true_and, and_true, Nat.reduceAdd, Nat.reduceLeDiff, Nat.reduceEqDiff, Nat.le_refl, not_true_eq_false, not_false_eq_true, reduceIte, eq_self, Int.reduceNeg, Int.reduceEq, Int.reduceLT, Int.reduceLE, Nat.zero_le, Nat.one_ne_zero, ev_strong, ev_strong_arr, Int.toNat_natCast]
  repeat refine And.intro (by omega) ?_
  rw [hQ103]
  clear hQ103 Q103
  refine kThen_N.mpr ?_
  refine wpS_seq' (fun Q104 hQ104 => ?_)
  simp only [wpS_skip, wpS_break, wpS_cont, wpS_retV, wpS_throw, wpS_seq, wpS_if, wpS_trunc, yS_let, yS_inc, kgK_i, kgK_r, kok_nil, kok_i0, kok_is, kok_r0, kok_rs, kok_n0, kok_ns, xS_put, xS_putOp, xS_ast0, xS_ast1, xS_astOp, wpS_E, wpS_call, wpS_callS, wpS_ret, kThen_N, kThen_B, kThen_C, kThen_R, kThen_T, kNext_N, kNext_C, kNext_B, kNext_R, wpE_K, wpE_KL, xE_I, xE_R, wpE_J, xE_bin, wpE_ladd, wpE_i2l, xE_get, xE_ald0, xE_ald1, wpE_if, xE_max, xE_min, wpE_len, wpA_nil, wpA_snoc, xE_call, xE_callS, xC_C, xC_L, xC_Z, wpC_and, wpC_or, wpC_not, wpC_if, kcmp_0, kcmp_1, kcmp_2, kcmp_3, kcmp_4, kcmp_5, rR_inj, kgO_some, kgO_add, kgO_sub, kgO_mul, kgO_div, kgO_rem, kgO_and, kvI_inl, kvJ_inl, kgI_0, kgI_s, kgR_0, kgR_s, kst_nil, kst_0, kst_s, kNLl_nil, kNLl_i, kNLl_r, kNLl_n, ktag_i, ktag_r, List.length_cons, List.length_nil, List.take_succ_cons, List.take_zero, List.take_nil, List.nil_append, List.cons_append, decide_eq_true_eq, Bool.not_eq_true, Bool.not_eq_true', decide_eq_false_iff_not, ne_eq, Decidable.not_not, true_and, and_true, Nat.reduceAdd, Nat.reduceLeDiff, Nat.reduceEqDiff, Nat.le_refl, not_true_eq_false, not_false_eq_true, reduceIte, eq_self, Int.reduceNeg, Int.reduceEq, Int.reduceLT, Int.reduceLE, Nat.zero_le, Nat.one_ne_zero]
  repeat refine And.intro (by omega) ?_
  rw [hQ104]
  clear hQ104 Q104
  refine kThen_N.mpr ?_
  obtain ⟨s0, hs0⟩ : ∃ s0, s0 = kup (kup σ 44 v (So v : Int)) 43 (Int.toNat 0) (v : Int) := ⟨_, rfl⟩
  rw [← hs0]
  have hs0 : s0 = kup (kup σ 44 v (So v : Int)) 43 0 (v : Int) := hs0
  have z44 : s0 44 = fun u => if u = v then (So v : Int) else σ 44 u := by
    funext u
    rw [hs0, kup_ne (by decide), kup_eq]
  refine wpS_gen (fun Q1 hQ1 => ?_)
  unfold l_Strong_leave_1
  refine wpS_fortG (fun i P s => ∃ S L h lc, P = [some (.inr (.inl 8)), some (.inl (v : Int)), some (.inr (.inl 2)), some (.inl ((h : Nat) : Int))] ∧ dfS s n c li fs sn Fo So S L h lc ∧ i ≤ cntP (psd n So (s 44)) c + lc ∧ (∀ o k, ¬ (42 ≤ o ∧ o ≤ 44) → (o ≠ 8 ∨ k ≠ 5) → s o k = σ o k) ∧ s 44 v ≠ -1 ∧ (∀ u, σ 44 u ≠ -1 → s 44 u ≠ -1)) (fun i => (i : Int)) 1500 rfl rfl ?_ ?_ ?_ ?_
  · simp only [wpS_skip, wpS_break, wpS_cont, wpS_retV, wpS_throw, wpS_seq, wpS_if, wpS_trunc, yS_let, yS_inc, kgK_i, kgK_r, kok_nil, kok_i0, kok_is, kok_r0, kok_rs, kok_n0, kok_ns, xS_put, xS_putOp, xS_ast0, xS_ast1, xS_astOp, wpS_E, wpS_call, wpS_callS, wpS_ret, kThen_N, kThen_B, kThen_C, kThen_R, kThen_T, kNext_N, kNext_C, kNext_B, kNext_R, wpE_K, wpE_KL, xE_I, xE_R, wpE_J, xE_bin, wpE_ladd, wpE_i2l, xE_get, xE_ald0, xE_ald1, wpE_if, xE_max, xE_min, wpE_len, wpA_nil, wpA_snoc, xE_call, xE_callS, xC_C, xC_L, xC_Z, wpC_and, wpC_or, wpC_not, wpC_if, kcmp_0, kcmp_1, kcmp_2, kcmp_3, kcmp_4, kcmp_5, rR_inj, kgO_some, kgO_add, kgO_sub, kgO_mul, kgO_div, kgO_rem, kgO_and, kvI_inl, kvJ_inl, kgI_0, kgI_s, kgR_0, kgR_s, kst_nil, kst_0, kst_s, kNLl_nil, kNLl_i, kNLl_r, kNLl_n, ktag_i, ktag_r, List.length_cons, List.length_nil, List.take_succ_cons, List.take_zero, List.take_nil, List.nil_append, List.cons_append, decide_eq_true_eq, Bool.not_eq_true, Bool.not_eq_true', decide_eq_false_iff_not, ne_eq, Decidable.not_not, true_and, and_true, Nat.reduceAdd, Nat.reduceLeDiff, Nat.reduceEqDiff, Nat.le_refl, not_true_eq_false, not_false_eq_true, reduceIte, eq_self, Int.reduceNeg, Int.reduceEq, Int.reduceLT, Int.reduceLE, Nat.zero_le, Nat.one_ne_zero]; trivial
  · refine ⟨fun _ => v, L, 1, lc, rfl, ⟨by rw [z44]; exact d0.start (hmono v hv) hv hc, fun i hi => ?_, fun i hi => ?_, ?_⟩, by omega, fun o k h1 h2 => ?_, ?_, fun u hu => ?_⟩
    · have : i = 0 := by omega
      rw [this, hs0, kup_eq, if_pos rfl]
    · rw [hs0, kup_ne (by decide), kup_ne (by decide)]; exact d2 i hi
    · rw [hs0, kup_ne (by decide), kup_ne (by decide)]; exact d3
    · rw [hs0, kup_ne (by omega), kup_ne (by omega)]
    · rw [z44]; simp only [if_true]; omega
    · rw [z44]
      by_cases e : u = v
      · simp only [e, if_true]; omega
      · simp only [e, if_false]; exact hu
  · rintro i P s ⟨S, L, h, lc, rfl, -⟩; exact ⟨rfl, rfl⟩
  · rintro i P s hi ⟨S, L, h, lc, rfl, ⟨dI, g43, g42, g85⟩, hcnt, hk, hkv, hku⟩
    have hlen := dI.len
    have hb := @cntP_bound (psd n So (s 44)) c
    have ci : (i : Int) < 1500 := by omega
    refine wpC_gen (fun Q2 hQ2 => ?_)
    rcases h with _ | h
    · have ch : ¬ (0 : Int) < ((0 : Nat) : Int) := by decide
      simp only [wpS_skip, wpS_break, wpS_cont, wpS_retV, wpS_throw, wpS_seq, wpS_if, wpS_trunc, yS_let, yS_inc, kgK_i, kgK_r, kok_nil, kok_i0, kok_is, kok_r0, kok_rs, kok_n0, kok_ns, xS_put, xS_putOp, xS_ast0, xS_ast1, xS_astOp, wpS_E, wpS_call, wpS_callS, wpS_ret, kThen_N, kThen_B, kThen_C, kThen_R, kThen_T, kNext_N, kNext_C, kNext_B, kNext_R, wpE_K, wpE_KL, xE_I, xE_R, wpE_J, xE_bin, wpE_ladd, wpE_i2l, xE_get, xE_ald0, xE_ald1, wpE_if, xE_max, xE_min, wpE_len, wpA_nil, wpA_snoc, xE_call, xE_callS, xC_C, xC_L, xC_Z, wpC_and, wpC_or, wpC_not, wpC_if, kcmp_0, kcmp_1, kcmp_2, kcmp_3, kcmp_4, kcmp_5, rR_inj, kgO_some, kgO_add, kgO_sub, kgO_mul, kgO_div, kgO_rem, kgO_and, kvI_inl, kvJ_inl, kgI_0, kgI_s, kgR_0, kgR_s, kst_nil, kst_0, kst_s, kNLl_nil, kNLl_i, kNLl_r, kNLl_n, ktag_i, ktag_r, List.length_cons, List.length_nil, List.take_succ_cons, List.take_zero, List.take_nil, List.nil_append, List.cons_append, decide_eq_true_eq, Bool.not_eq_true, Bool.not_eq_true', decide_eq_false_iff_not, ne_eq, Decidable.not_not, true_and, and_true, Nat.reduceAdd, Nat.reduceLeDiff, Nat.reduceEqDiff, Nat.le_refl, not_true_eq_false, not_false_eq_true, reduceIte, eq_self, Int.reduceNeg, Int.reduceEq, Int.reduceLT, Int.reduceLE, Nat.zero_le, Nat.one_ne_zero, ci, ch, decide_true, decide_false, Bool.false_eq_true, if_true, if_false, true_and, and_true, not_true_eq_false, not_false_eq_true]
      rw [hQ2]
      refine ⟨rfl, Or.inr ⟨rfl, ?_⟩⟩
      rw [hQ1]
      rw [hQ0]
      refine kThen_N.mpr (wpS_retV.mpr ⟨none, rfl, rfl, ?_⟩)
      exact ⟨rfl, hk, hkv, hku, S, L, lc, dI, g43, g42, g85⟩
    · have ch : (0 : Int) < ((h + 1 : Nat) : Int) := by omega
      simp only [wpS_skip, wpS_break, wpS_cont, wpS_retV, wpS_throw, wpS_seq, wpS_if, wpS_trunc, yS_let, yS_inc, kgK_i, kgK_r, kok_nil, kok_i0, kok_is, kok_r0, kok_rs, kok_n0, kok_ns, xS_put, xS_putOp, xS_ast0, xS_ast1, xS_astOp, wpS_E, wpS_call, wpS_callS, wpS_ret, kThen_N, kThen_B, kThen_C, kThen_R, kThen_T, kNext_N, kNext_C, kNext_B, kNext_R, wpE_K, wpE_KL, xE_I, xE_R, wpE_J, xE_bin, wpE_ladd, wpE_i2l, xE_get, xE_ald0, xE_ald1, wpE_if, xE_max, xE_min, wpE_len, wpA_nil, wpA_snoc, xE_call, xE_callS, xC_C, xC_L, xC_Z, wpC_and, wpC_or, wpC_not, wpC_if, kcmp_0, kcmp_1, kcmp_2, kcmp_3, kcmp_4, kcmp_5, rR_inj, kgO_some, kgO_add, kgO_sub, kgO_mul, kgO_div, kgO_rem, kgO_and, kvI_inl, kvJ_inl, kgI_0, kgI_s, kgR_0, kgR_s, kst_nil, kst_0, kst_s, kNLl_nil, kNLl_i, kNLl_r, kNLl_n, ktag_i, ktag_r, List.length_cons, List.length_nil, List.take_succ_cons, List.take_zero, List.take_nil, List.nil_append, List.cons_append, decide_eq_true_eq, Bool.not_eq_true, Bool.not_eq_true', decide_eq_false_iff_not, ne_eq, Decidable.not_not, true_and, and_true, Nat.reduceAdd, Nat.reduceLeDiff, Nat.reduceEqDiff, Nat.le_refl, not_true_eq_false, not_false_eq_true, reduceIte, eq_self, Int.reduceNeg, Int.reduceEq, Int.reduceLT, Int.reduceLE, Nat.zero_le, Nat.one_ne_zero, ci, ch, decide_true, decide_false, Bool.false_eq_true, if_true, if_false, true_and, and_true, not_true_eq_false, not_false_eq_true]
      rw [hQ2]
      refine ⟨rfl, Or.inl ⟨rfl, by omega, by omega, by omega, by omega, ?_⟩⟩
      clear hQ2 Q2
      have ed : (((h + 1 : Nat) : Int) - 1).toNat = h := by omega
      have hSn := dI.1.1 h (by omega)
      have e43 := g43 h (by omega)
      have cur := dI.2.2.1 _ hSn
      have met : s 44 (S h) ≠ -1 := (dI.2.2.2.1 _ hSn).mpr (Or.inl ⟨h, by omega, rfl⟩)
      obtain ⟨k, hk44⟩ : ∃ k : Nat, s 44 (S h) = (k : Int) := ⟨(s 44 (S h)).toNat, by omega⟩
      have e20 : s 20 (S h + 1) = (So (S h + 1) : Int) := by rw [hk _ _ (by decide) (Or.inl (by decide))]; exact f4 _ (by omega)
      have es : ((S h : Int) + 1).toNat = S h + 1 := by omega
      have hle := fan_le hF (show S h + 1 ≤ n by omega)
      refine wpS_gen (fun Q3 hQ3 => ?_)
      by_cases q : k < So (S h + 1)
      · have q' : (k : Int) < (So (S h + 1) : Int) := by omega
        obtain ⟨x, hx⟩ : ∃ x, x = Fo k := ⟨_, rfl⟩
        have e19 : s 19 k = (x : Int) := by rw [hk _ _ (by decide) (Or.inl (by decide)), hx]; exact f3 k (by omega)
        have hx5 : th c li x := by
          obtain ⟨⟨j, j1, j2⟩, -⟩ := hF.2.2.2.1 k (by omega)
          exact ⟨j, j1, by rw [hx]; exact j2⟩
        have hxl := th_lt hG hx5
        have e16 : s 16 x = (sn x : Int) := by rw [hk _ _ (by decide) (Or.inl (by decide))]; exact hW.2.2.2.2.1 x
        obtain ⟨w, hw⟩ : ∃ w, w = sn x := ⟨_, rfl⟩
        rw [← hw] at e16
        have hwn : w < n := by omega
        have e20w : s 20 w = (So w : Int) := by rw [hk _ _ (by decide) (Or.inl (by decide))]; exact f4 _ (by omega)
        have hfx : fs x = S h := by rw [hx]; exact (fan_at hF (by omega) hSn).mpr ⟨by omega, q⟩
        have hedge : dE (th c li) fs sn (S h) w := ⟨x, hx5, hfx, hw.symm⟩
        have adv44 : ∀ s' : kS, (fun u => if u = S h then (k : Int) + 1 else s' 44 u) = kup s' 44 (S h) ((k : Int) + 1) 44 := fun s' => by funext u; rw [kup_eq]
        by_cases qw : kup s 44 (S h) ((k : Int) + 1) 44 w = -1
        · -- met anew
          have hne : w ≠ S h := fun e => by rw [e, kup_eq, if_pos rfl] at qw; omega
          have qw' : s 44 w = -1 := by rw [kup_eq, if_neg hne] at qw; exact qw
          have D1 := dI.push (hmono w hwn) hwn qw' hedge
          have hl2 := D1.len
          have D2 := D1.adv (k := k) (p := h) (y := S h) (by omega) (if_neg (by omega)) (by rw [if_neg (fun e => hne e.symm)]; exact hk44) q (by rw [← hx, ← hw, if_pos rfl]; omega)
          simp only [wpS_skip, wpS_break, wpS_cont, wpS_retV, wpS_throw, wpS_seq, wpS_if, wpS_trunc, yS_let, yS_inc, kgK_i, kgK_r, kok_nil, kok_i0, kok_is, kok_r0, kok_rs, kok_n0, kok_ns, xS_put, xS_putOp, xS_ast0, xS_ast1, xS_astOp, wpS_E, wpS_call, wpS_callS, wpS_ret, kThen_N, kThen_B, kThen_C, kThen_R, kThen_T, kNext_N, kNext_C, kNext_B, kNext_R, wpE_K, wpE_KL, xE_I, xE_R, wpE_J, xE_bin, wpE_ladd, wpE_i2l, xE_get, xE_ald0, xE_ald1, wpE_if, xE_max, xE_min, wpE_len, wpA_nil, wpA_snoc, xE_call, xE_callS, xC_C, xC_L, xC_Z, wpC_and, wpC_or, wpC_not, wpC_if, kcmp_0, kcmp_1, kcmp_2, kcmp_3, kcmp_4, kcmp_5, rR_inj, kgO_some, kgO_add, kgO_sub, kgO_mul, kgO_div, kgO_rem, kgO_and, kvI_inl, kvJ_inl, kgI_0, kgI_s, kgR_0, kgR_s, kst_nil, kst_0, kst_s, kNLl_nil, kNLl_i, kNLl_r, kNLl_n, ktag_i, ktag_r, List.length_cons, List.length_nil, List.take_succ_cons, List.take_zero, List.take_nil, List.nil_append, List.cons_append, decide_eq_true_eq, Bool.not_eq_true, Bool.not_eq_true', decide_eq_false_iff_not, ne_eq, Decidable.not_not, true_and, and_true, Nat.reduceAdd, Nat.reduceLeDiff, Nat.reduceEqDiff, Nat.le_refl, not_true_eq_false, not_false_eq_true, reduceIte, eq_self, Int.reduceNeg, Int.reduceEq, Int.reduceLT, Int.reduceLE, Nat.zero_le, Nat.one_ne_zero, ev_strong, ev_strong_arr, ev_web, ev_web_arr, ev_fout, ev_fout_arr, Int.toNat_natCast, ed, es, e43, hk44, e20, q', e19, e16, qw, e20w, kup_ne, Nat.reduceEqDiff, decide_true, decide_false, Bool.false_eq_true, if_true, if_false, true_and, and_true, not_true_eq_false, not_false_eq_true]
          repeat refine And.intro (by omega) ?_
          rw [hQ3]
          have z44' : kup (kup (kup s 44 (S h) ((k : Int) + 1)) 44 w (So w : Int)) 43 (h + 1) (w : Int) 44 = fun u => if u = S h then (k : Int) + 1 else if u = w then (So w : Int) else s 44 u := by
            funext u
            rw [kup_ne (by decide), kup_eq, kup_eq]
            by_cases e1 : u = w
            · rw [if_pos e1, if_neg (fun e => hne (e1.symm.trans e)), if_pos e1]
            · rw [if_neg e1, if_neg e1]
          have pc := psd_adv hF D1.2.2.1 hSn (k := k) (by rw [if_neg (fun e => hne e.symm)]; exact hk44) q
          rw [psd_push qw'] at pc
          refine kStep_N (P := [some (.inr (.inl 8)), some (.inl (v : Int)), some (.inr (.inl 2)), some (.inl ((h + 2 : Nat) : Int))]) rfl ⟨_, L, h + 2, lc, rfl, ⟨by rw [z44']; exact D2, fun i hi => ?_, fun i hi => ?_, ?_⟩, ?_, fun o k h1 h2 => ?_, ?_, fun u hu => ?_⟩
          · rw [kup_eq]
            by_cases e : i = h + 1
            · rw [if_pos e, if_pos e]
            · rw [if_neg e, if_neg e, kup_ne (by decide), kup_ne (by decide)]; exact g43 i (by omega)
          · rw [kup_ne (by decide), kup_ne (by decide), kup_ne (by decide)]; exact g42 i hi
          · rw [kup_ne (by decide), kup_ne (by decide), kup_ne (by decide)]; exact g85
          · rw [z44', pc]; omega
          · rw [kup_ne (by omega), kup_ne (by omega), kup_ne (by omega)]; exact hk o k h1 h2
          · rw [z44']
            show ¬ (if v = S h then (k : Int) + 1 else if v = w then (So w : Int) else s 44 v) = -1
            split
            · omega
            · split
              · omega
              · exact hkv
          · rw [z44']
            show ¬ (if u = S h then (k : Int) + 1 else if u = w then (So w : Int) else s 44 u) = -1
            split
            · omega
            · split
              · omega
              · exact hku u hu
        · have qw' : s 44 (sn (Fo k)) ≠ -1 := by
            rw [← hx, ← hw]
            rw [kup_eq] at qw
            by_cases e : w = S h
            · rw [e]; exact met
            · rw [if_neg e] at qw; exact qw
          have D2 := dI.adv (k := k) (p := h) (y := S h) (by omega) rfl hk44 q qw'
          have pc := psd_adv hF dI.2.2.1 hSn (k := k) hk44 q
          simp only [wpS_skip, wpS_break, wpS_cont, wpS_retV, wpS_throw, wpS_seq, wpS_if, wpS_trunc, yS_let, yS_inc, kgK_i, kgK_r, kok_nil, kok_i0, kok_is, kok_r0, kok_rs, kok_n0, kok_ns, xS_put, xS_putOp, xS_ast0, xS_ast1, xS_astOp, wpS_E, wpS_call, wpS_callS, wpS_ret, kThen_N, kThen_B, kThen_C, kThen_R, kThen_T, kNext_N, kNext_C, kNext_B, kNext_R, wpE_K, wpE_KL, xE_I, xE_R, wpE_J, xE_bin, wpE_ladd, wpE_i2l, xE_get, xE_ald0, xE_ald1, wpE_if, xE_max, xE_min, wpE_len, wpA_nil, wpA_snoc, xE_call, xE_callS, xC_C, xC_L, xC_Z, wpC_and, wpC_or, wpC_not, wpC_if, kcmp_0, kcmp_1, kcmp_2, kcmp_3, kcmp_4, kcmp_5, rR_inj, kgO_some, kgO_add, kgO_sub, kgO_mul, kgO_div, kgO_rem, kgO_and, kvI_inl, kvJ_inl, kgI_0, kgI_s, kgR_0, kgR_s, kst_nil, kst_0, kst_s, kNLl_nil, kNLl_i, kNLl_r, kNLl_n, ktag_i, ktag_r, List.length_cons, List.length_nil, List.take_succ_cons, List.take_zero, List.take_nil, List.nil_append, List.cons_append, decide_eq_true_eq, Bool.not_eq_true, Bool.not_eq_true', decide_eq_false_iff_not, ne_eq, Decidable.not_not, true_and, and_true, Nat.reduceAdd, Nat.reduceLeDiff, Nat.reduceEqDiff, Nat.le_refl, not_true_eq_false, not_false_eq_true, reduceIte, eq_self, Int.reduceNeg, Int.reduceEq, Int.reduceLT, Int.reduceLE, Nat.zero_le, Nat.one_ne_zero, ev_strong, ev_strong_arr, ev_web, ev_web_arr, ev_fout, ev_fout_arr, Int.toNat_natCast, ed, es, e43, hk44, e20, q', e19, e16, qw, kup_ne, Nat.reduceEqDiff, decide_true, decide_false, Bool.false_eq_true, if_true, if_false, true_and, and_true, not_true_eq_false, not_false_eq_true]
          repeat refine And.intro (by omega) ?_
          rw [hQ3]
          refine kStep_N (P := [some (.inr (.inl 8)), some (.inl (v : Int)), some (.inr (.inl 2)), some (.inl ((h + 1 : Nat) : Int))]) rfl ⟨S, L, h + 1, lc, rfl, ⟨by rw [← adv44]; exact D2, fun i hi => ?_, fun i hi => ?_, ?_⟩, ?_, fun o k h1 h2 => ?_, ?_, fun u hu => ?_⟩
          · rw [kup_ne (by decide)]; exact g43 i hi
          · rw [kup_ne (by decide)]; exact g42 i hi
          · rw [kup_ne (by decide)]; exact g85
          · rw [← adv44, pc]; omega
          · rw [kup_ne (by omega)]; exact hk o k h1 h2
          · rw [kup_eq]
            split
            · omega
            · exact hkv
          · rw [kup_eq]
            split
            · omega
            · exact hku u hu
      · have q' : ¬ (k : Int) < (So (S h + 1) : Int) := by omega
        have D2 := dI.pop hG hF (by rw [hk44]; rcases cur with z | z <;> omega)
        have hl2 := D2.len
        simp only [wpS_skip, wpS_break, wpS_cont, wpS_retV, wpS_throw, wpS_seq, wpS_if, wpS_trunc, yS_let, yS_inc, kgK_i, kgK_r, kok_nil, kok_i0, kok_is, kok_r0, kok_rs, kok_n0, kok_ns, xS_put, xS_putOp, xS_ast0, xS_ast1, xS_astOp, wpS_E, wpS_call, wpS_callS, wpS_ret, kThen_N, kThen_B, kThen_C, kThen_R, kThen_T, kNext_N, kNext_C, kNext_B, kNext_R, wpE_K, wpE_KL, xE_I, xE_R, wpE_J, xE_bin, wpE_ladd, wpE_i2l, xE_get, xE_ald0, xE_ald1, wpE_if, xE_max, xE_min, wpE_len, wpA_nil, wpA_snoc, xE_call, xE_callS, xC_C, xC_L, xC_Z, wpC_and, wpC_or, wpC_not, wpC_if, kcmp_0, kcmp_1, kcmp_2, kcmp_3, kcmp_4, kcmp_5, rR_inj, kgO_some, kgO_add, kgO_sub, kgO_mul, kgO_div, kgO_rem, kgO_and, kvI_inl, kvJ_inl, kgI_0, kgI_s, kgR_0, kgR_s, kst_nil, kst_0, kst_s, kNLl_nil, kNLl_i, kNLl_r, kNLl_n, ktag_i, ktag_r, List.length_cons, List.length_nil, List.take_succ_cons, List.take_zero, List.take_nil, List.nil_append, List.cons_append, decide_eq_true_eq, Bool.not_eq_true, Bool.not_eq_true', decide_eq_false_iff_not, ne_eq, Decidable.not_not, true_and, and_true, Nat.reduceAdd, Nat.reduceLeDiff, Nat.reduceEqDiff, Nat.le_refl, not_true_eq_false, not_false_eq_true, reduceIte, eq_self, Int.reduceNeg, Int.reduceEq, Int.reduceLT, Int.reduceLE, Nat.zero_le, Nat.one_ne_zero, ev_strong, ev_strong_arr, ev_web, ev_web_arr, ev_fout, ev_fout_arr, Int.toNat_natCast, ed, es, e43, hk44, e20, q', g85, kup_ne, Nat.reduceEqDiff, decide_true, decide_false, Bool.false_eq_true, if_true, if_false, true_and, and_true, not_true_eq_false, not_false_eq_true]
        repeat refine And.intro (by omega) ?_
        rw [hQ3]
        have ez : ((h + 1 : Nat) : Int) + -1 = (h : Int) := by omega
        refine kStep_N (P := [some (.inr (.inl 8)), some (.inl (v : Int)), some (.inr (.inl 2)), some (.inl (h : Int))]) (by rw [ez]; rfl) ⟨S, _, h, lc + 1, rfl, ⟨by rw [kup_ne (by decide), kup_ne (by decide)]; exact D2, fun i hi => ?_, fun i hi => ?_, ?_⟩, ?_, fun o k h1 h2 => ?_, ?_, fun u hu => ?_⟩
        · rw [kup_ne (by decide), kup_ne (by decide)]; exact g43 i (by omega)
        · rw [kup_ne (by decide), kup_eq]
          by_cases e : i = lc
          · rw [if_pos e, if_pos e]
          · rw [if_neg e, if_neg e]; exact g42 i (by omega)
        · rw [kup_eq, if_pos rfl]; omega
        · rw [kup_ne (by decide), kup_ne (by decide)]; omega
        · rw [kup_other (by omega), kup_ne (by omega)]; exact hk o k h1 h2
        · rw [kup_ne (by decide), kup_ne (by decide)]; exact hkv
        · rw [kup_ne (by decide), kup_ne (by decide)]; exact hku u hu
end SL
