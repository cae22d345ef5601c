/-! FORESTS: arcs as numbers x in a set A, ends fs x and sn x -/
def uE (A : Nat → Prop) (fs sn : Nat → Nat) (u v : Nat) : Prop := ∃ x, A x ∧ ((fs x = u ∧ sn x = v) ∨ (sn x = u ∧ fs x = v))
def dE (A : Nat → Prop) (fs sn : Nat → Nat) (u v : Nat) : Prop := ∃ x, A x ∧ fs x = u ∧ sn x = v
theorem uE.symm {A : Nat → Prop} {fs sn : Nat → Nat} {u v : Nat} (h : uE A fs sn u v) : uE A fs sn v u := by
  obtain ⟨x, h1, h2 | h2⟩ := h
  · exact ⟨x, h1, Or.inr ⟨h2.2, h2.1⟩⟩
  · exact ⟨x, h1, Or.inl ⟨h2.2, h2.1⟩⟩
theorem uE.rsymm {A : Nat → Prop} {fs sn : Nat → Nat} {u v : Nat} (h : rch (uE A fs sn) u v) : rch (uE A fs sn) v u := rch.symm' (fun _ _ => uE.symm) h
theorem uE.mono {A B : Nat → Prop} {fs sn : Nat → Nat} (hAB : ∀ x, A x → B x) {u v : Nat} (h : uE A fs sn u v) : uE B fs sn u v := by
  obtain ⟨x, h1, h2⟩ := h
  exact ⟨x, hAB x h1, h2⟩
theorem uE.of {A : Nat → Prop} {fs sn : Nat → Nat} {x : Nat} (h : A x) : uE A fs sn (fs x) (sn x) := ⟨x, h, Or.inl ⟨rfl, rfl⟩⟩
/-- no arc has its ends joined by the others -/
def Ac (A : Nat → Prop) (fs sn : Nat → Nat) : Prop := ∀ x, A x → ¬ rch (uE (fun y => A y ∧ y ≠ x) fs sn) (fs x) (sn x)
theorem Ac.mono {A B : Nat → Prop} {fs sn : Nat → Nat} (h : Ac B fs sn) (hAB : ∀ x, A x → B x) : Ac A fs sn := fun x hx hr => h x (hAB x hx) (hr.mono (fun _ _ => uE.mono (fun y hy => ⟨hAB y hy.1, hy.2⟩)))
theorem Ac.add {A : Nat → Prop} {fs sn : Nat → Nat} (h : Ac A fs sn) {z : Nat} (hz : ¬ rch (uE A fs sn) (fs z) (sn z)) : Ac (fun x => A x ∨ x = z) fs sn := by
  intro x hx hr
  by_cases hxz : x = z
  · subst hxz
    refine hz (hr.mono (fun _ _ => uE.mono (fun y hy => ?_)))
    exact hy.1.elim id (fun e => absurd e hy.2)
  · have hA : A x := hx.elim id (fun e => absurd e hxz)
    -- either the way uses z or not
    have key : ∀ v, rch (uE (fun y => (A y ∨ y = z) ∧ y ≠ x) fs sn) (fs x) v → rch (uE (fun y => A y ∧ y ≠ x) fs sn) (fs x) v ∨
        ((rch (uE (fun y => A y ∧ y ≠ x) fs sn) (fs x) (fs z) ∧ rch (uE (fun y => A y ∧ y ≠ x) fs sn) (sn z) v) ∨ (rch (uE (fun y => A y ∧ y ≠ x) fs sn) (fs x) (sn z) ∧ rch (uE (fun y => A y ∧ y ≠ x) fs sn) (fs z) v)) := by
      intro v hv
      refine rch.closed (S := fun v => rch (uE (fun y => A y ∧ y ≠ x) fs sn) (fs x) v ∨
        ((rch (uE (fun y => A y ∧ y ≠ x) fs sn) (fs x) (fs z) ∧ rch (uE (fun y => A y ∧ y ≠ x) fs sn) (sn z) v) ∨ (rch (uE (fun y => A y ∧ y ≠ x) fs sn) (fs x) (sn z) ∧ rch (uE (fun y => A y ∧ y ≠ x) fs sn) (fs z) v))) ?_ (Or.inl (rch.rfl' _)) hv
      rintro u w hu ⟨y, ⟨hy, hyx⟩, hy2⟩
      rcases hy with hy | rfl
      · have e : uE (fun y => A y ∧ y ≠ x) fs sn u w := ⟨y, ⟨hy, hyx⟩, hy2⟩
        rcases hu with hu | ⟨hu1, hu2⟩ | ⟨hu1, hu2⟩
        · exact Or.inl (hu.snoc e)
        · exact Or.inr (Or.inl ⟨hu1, hu2.snoc e⟩)
        · exact Or.inr (Or.inr ⟨hu1, hu2.snoc e⟩)
      · rcases hy2 with ⟨rfl, rfl⟩ | ⟨rfl, rfl⟩
        · rcases hu with hu | ⟨hu1, hu2⟩ | ⟨hu1, hu2⟩
          · exact Or.inr (Or.inl ⟨hu, rch.rfl' _⟩)
          · exact Or.inr (Or.inl ⟨hu1, rch.rfl' _⟩)
          · exact Or.inl hu1
        · rcases hu with hu | ⟨hu1, hu2⟩ | ⟨hu1, hu2⟩
          · exact Or.inr (Or.inr ⟨hu, rch.rfl' _⟩)
          · exact Or.inl hu1
          · exact Or.inr (Or.inr ⟨hu1, rch.rfl' _⟩)
    have up : ∀ u v, uE (fun y => A y ∧ y ≠ x) fs sn u v → uE A fs sn u v := fun _ _ => uE.mono (fun y hy => hy.1)
    have ex : rch (uE A fs sn) (fs x) (sn x) := rch.one (uE.of hA)
    rcases key _ hr with k | ⟨k1, k2⟩ | ⟨k1, k2⟩
    · exact h x hA k
    · exact hz ((uE.rsymm (k1.mono up)).trans (ex.trans (uE.rsymm (k2.mono up))))
    · exact hz ((k2.mono up).trans ((uE.rsymm ex).trans (k1.mono up)))
/-- what hangs: each node is the least of its part, or hangs by an arc at a node -/
def LF (n : Nat) (A : Nat → Prop) (fs sn rt dp : Nat → Nat) (pa up : Nat → Int) : Prop :=
  (∀ v, v < n → rt v ≤ v ∧ rt (rt v) = rt v ∧ ((rt v = v ∧ dp v = 0 ∧ pa v = -1 ∧ up v = -1) ∨
    (rt v ≠ v ∧ ∃ x p : Nat, A x ∧ up v = (x : Int) ∧ pa v = (p : Int) ∧ p < n ∧ rt p = rt v ∧ dp v = dp p + 1 ∧ ((fs x = v ∧ sn x = p) ∨ (sn x = v ∧ fs x = p))))) ∧
  (∀ x, A x → fs x < n ∧ sn x < n ∧ rt (fs x) = rt (sn x))
def FO (n : Nat) (A : Nat → Prop) (fs sn rt dp : Nat → Nat) (pa up : Nat → Int) : Prop :=
  LF n A fs sn rt dp pa up ∧ ∀ x, A x → ∃ v, v < n ∧ rt v ≠ v ∧ up v = (x : Int)
section FO
variable {n : Nat} {A : Nat → Prop} {fs sn rt dp : Nat → Nat} {pa up : Nat → Int}
theorem LF.toRoot (h : LF n A fs sn rt dp pa up) : ∀ m v, v < n → dp v = m → rch (uE A fs sn) v (rt v) := by
  intro m
  induction m with
  | zero =>
    intro v hv hd
    rcases (h.1 v hv).2.2 with q | ⟨-, x, p, -, -, -, -, -, q, -⟩
    · rw [q.1]; exact rch.rfl' v
    · omega
  | succ m ih =>
    intro v hv hd
    rcases (h.1 v hv).2.2 with q | ⟨-, x, p, q1, -, -, q4, q5, q6, q7⟩
    · omega
    · have := ih p q4 (by omega)
      rw [q5] at this
      refine rch.cons ⟨x, q1, ?_⟩ this
      exact q7
theorem LF.root_lt (h : LF n A fs sn rt dp pa up) {v : Nat} (hv : v < n) : rt v < n := by
  have := (h.1 v hv).1
  omega
theorem LF.rch_rt (h : LF n A fs sn rt dp pa up) {u v : Nat} (hr : rch (uE A fs sn) u v) : rt u = rt v := by
  refine rch.closed (S := fun w => rt u = rt w) ?_ rfl hr
  rintro a b ha ⟨x, hx, ⟨rfl, rfl⟩ | ⟨rfl, rfl⟩⟩
  · exact ha.trans (h.2 x hx).2.2
  · exact ha.trans (h.2 x hx).2.2.symm
theorem LF.rch_iff (h : LF n A fs sn rt dp pa up) {u v : Nat} (hu : u < n) (hv : v < n) : rch (uE A fs sn) u v ↔ rt u = rt v := by
  refine ⟨h.rch_rt, fun e => ?_⟩
  have h1 := h.toRoot _ u hu rfl
  have h2 := h.toRoot _ v hv rfl
  rw [← e] at h2
  exact h1.trans (uE.rsymm h2)
theorem LF.least (h : LF n A fs sn rt dp pa up) {v : Nat} (hv : v < n) : rch (uE A fs sn) v (rt v) ∧ ∀ u, u < n → rch (uE A fs sn) v u → rt v ≤ u := by
  refine ⟨h.toRoot _ v hv rfl, fun u hu hr => ?_⟩
  rw [h.rch_rt hr]
  exact (h.1 u hu).1
theorem FO.step (h : FO n A fs sn rt dp pa up) {u v : Nat} (e : uE A fs sn u v) : (dp v = dp u + 1 ∧ pa v = (u : Int)) ∨ (dp u = dp v + 1 ∧ pa u = (v : Int)) := by
  obtain ⟨x, hx, hx2⟩ := e
  obtain ⟨w, w1, w2, w3⟩ := h.2 x hx
  rcases (h.1.1 w w1).2.2 with q | ⟨-, y, p, q1, q2, q3, q4, q5, q6, q7⟩
  · exact absurd q.1 w2
  · have : y = x := by omega
    subst this
    rcases hx2 with ⟨rfl, rfl⟩ | ⟨rfl, rfl⟩ <;> rcases q7 with ⟨rfl, rfl⟩ | ⟨rfl, rfl⟩
    · right; exact ⟨q6, q3⟩
    · left; exact ⟨q6, q3⟩
    · left; exact ⟨q6, q3⟩
    · right; exact ⟨q6, q3⟩
theorem FO.parity (h : FO n A fs sn rt dp pa up) {u v m : Nat} (hw : wk (uE A fs sn) m u v) : (dp u + dp v) % 2 = m % 2 :=
  wk_parity (f := dp) (fun _ _ e => (h.step e).elim (fun q => Or.inl q.1) (fun q => Or.inr q.1)) hw
theorem LF.wkRoot (h : LF n A fs sn rt dp pa up) : ∀ m v, v < n → dp v = m → wk (uE A fs sn) m v (rt v) := by
  intro m
  induction m with
  | zero =>
    intro v hv hd
    rcases (h.1 v hv).2.2 with q | ⟨-, x, p, -, -, -, -, -, q, -⟩
    · exact q.1.symm
    · omega
  | succ m ih =>
    intro v hv hd
    rcases (h.1 v hv).2.2 with q | ⟨-, x, p, q1, -, -, q4, q5, q6, q7⟩
    · omega
    · have := ih p q4 (by omega)
      rw [q5] at this
      exact wk_cons ⟨x, q1, q7⟩ this
theorem FO.dsRoot (h : FO n A fs sn rt dp pa up) {v : Nat} (hv : v < n) : ds (uE A fs sn) v (rt v) (dp v) := by
  refine ⟨h.1.wkRoot _ v hv rfl, fun m hm => ?_⟩
  have h1 := wk_rev (fun _ _ => uE.symm) hm
  have h2 := wk_height (f := dp) (fun u w e => (h.step e).elim (fun q => by omega) (fun q => by omega)) h1
  have h3 : dp (rt v) = 0 := by
    rcases (h.1.1 (rt v) (h.1.root_lt hv)).2.2 with q | ⟨q, -⟩
    · exact q.2.1
    · exact absurd (h.1.1 v hv).2.1 q
  omega
/-- the way up: the k-th node above v -/
def clb (pa : Nat → Int) : Nat → Nat → Nat
  | 0, v => v
  | k + 1, v => clb pa k (pa v).toNat
theorem clb_succ {k v : Nat} : clb pa (k + 1) v = (pa (clb pa k v)).toNat := by
  induction k generalizing v with
  | zero => rfl
  | succ k ih => exact ih
theorem LF.climb (h : LF n A fs sn rt dp pa up) : ∀ {k v : Nat}, v < n → k ≤ dp v → clb pa k v < n ∧ dp (clb pa k v) + k = dp v ∧ rt (clb pa k v) = rt v := by
  intro k
  induction k with
  | zero => intro v hv _; exact ⟨hv, rfl, rfl⟩
  | succ k ih =>
    intro v hv hk
    rcases (h.1 v hv).2.2 with q | ⟨-, x, p, q1, q2, q3, q4, q5, q6, q7⟩
    · omega
    · have e : (pa v).toNat = p := by omega
      show clb pa k (pa v).toNat < n ∧ _
      obtain ⟨g1, g2, g3⟩ := ih q4 (by omega : k ≤ dp p)
      rw [show clb pa (k + 1) v = clb pa k p by show clb pa k (pa v).toNat = _; rw [e], e]
      exact ⟨g1, by omega, by rw [g3, q5]⟩
/-- w hangs (somewhere) under v -/
def sub (dp : Nat → Nat) (pa : Nat → Int) (v w : Nat) : Prop := dp v ≤ dp w ∧ clb pa (dp w - dp v) w = v
theorem LF.sub_par (h : LF n A fs sn rt dp pa up) {v w p : Nat} (hw : w < n) (hp : pa w = (p : Int)) (hne : w ≠ v) : sub dp pa v w ↔ sub dp pa v p := by
  rcases (h.1 w hw).2.2 with q | ⟨-, x, p', q1, q2, q3, q4, q5, q6, q7⟩
  · omega
  · have e : p' = p := by omega
    subst e
    have et : (pa w).toNat = p' := by omega
    unfold sub
    constructor
    · rintro ⟨h1, h2⟩
      have hlt : dp v < dp w := by
        rcases Nat.lt_or_ge (dp v) (dp w) with h | h
        · exact h
        · rw [show dp w - dp v = 0 by omega] at h2
          exact absurd h2 hne
      refine ⟨by omega, ?_⟩
      rw [show dp w - dp v = (dp p' - dp v) + 1 by omega] at h2
      rw [← h2]
      show _ = clb pa (dp p' - dp v) (pa w).toNat
      rw [et]
      exact h2.symm ▸ rfl
    · rintro ⟨h1, h2⟩
      refine ⟨by omega, ?_⟩
      rw [show dp w - dp v = (dp p' - dp v) + 1 by omega]
      show clb pa (dp p' - dp v) (pa w).toNat = v
      rw [et]; exact h2
theorem sub.refl (v : Nat) : sub dp pa v v := ⟨Nat.le_refl _, by rw [Nat.sub_self]; rfl⟩
/-- a tree arc's ends are parted without it: below it and not below it -/
theorem FO.cut (h : FO n A fs sn rt dp pa up) {v x : Nat} (hv : v < n) (hx : up v = (x : Int)) {B : Nat → Prop} (hB : ∀ y, B y → y ≠ x ∧ ((A y) ∨ (sub dp pa v (fs y) ↔ sub dp pa v (sn y)))) {a b : Nat} (hr : rch (uE B fs sn) a b) : sub dp pa v a ↔ sub dp pa v b := by
  refine rch.closed (S := fun w => (sub dp pa v a ↔ sub dp pa v w)) ?_ Iff.rfl hr
  have key : ∀ y, B y → (sub dp pa v (fs y) ↔ sub dp pa v (sn y)) := by
    intro y hy
    obtain ⟨y1, y2⟩ := hB y hy
    rcases y2 with y2 | y2
    · obtain ⟨w, w1, w2, w3⟩ := h.2 y y2
      have hwv : w ≠ v := fun e => y1 (by rw [e, hx] at w3; omega)
      rcases (h.1.1 w w1).2.2 with q | ⟨-, z, p, q1, q2, q3, q4, q5, q6, q7⟩
      · exact absurd q.1 w2
      · have e : z = y := by omega
        subst e
        have := h.1.sub_par w1 q3 hwv
        rcases q7 with ⟨rfl, rfl⟩ | ⟨rfl, rfl⟩
        · exact this
        · exact this.symm
    · exact y2
  rintro u w hu ⟨y, hy, ⟨rfl, rfl⟩ | ⟨rfl, rfl⟩⟩
  · exact hu.trans (key y hy)
  · exact hu.trans (key y hy).symm
theorem FO.ac (h : FO n A fs sn rt dp pa up) : Ac A fs sn := by
  intro x hx hr
  obtain ⟨w, w1, w2, w3⟩ := h.2 x hx
  have := h.cut w1 w3 (B := fun y => A y ∧ y ≠ x) (fun y hy => ⟨hy.2, Or.inl hy.1⟩) hr
  rcases (h.1.1 w w1).2.2 with q | ⟨-, z, p, q1, q2, q3, q4, q5, q6, q7⟩
  · exact w2 q.1
  · have e : z = x := by omega
    subst e
    have hp : ¬ sub dp pa w p := fun q => by have := q.1; omega
    rcases q7 with ⟨rfl, rfl⟩ | ⟨rfl, rfl⟩
    · exact hp (this.mp (sub.refl _))
    · exact hp (this.mpr (sub.refl _))
/-- what hangs, by arcs without rings: each arc is one that something hangs by -/
theorem LF.fo (h : LF n A fs sn rt dp pa up) (hA : Ac A fs sn) : FO n A fs sn rt dp pa up := by
  refine ⟨h, fun x hx => Classical.byContradiction fun hn => ?_⟩
  have key : ∀ m v, v < n → dp v = m → rch (uE (fun y => A y ∧ y ≠ x) fs sn) v (rt v) := by
    intro m
    induction m with
    | zero =>
      intro v hv hd
      rcases (h.1 v hv).2.2 with q | ⟨-, y, p, -, -, -, -, -, q, -⟩
      · rw [q.1]; exact rch.rfl' v
      · omega
    | succ m ih =>
      intro v hv hd
      rcases (h.1 v hv).2.2 with q | ⟨q0, y, p, q1, q2, q3, q4, q5, q6, q7⟩
      · omega
      · have := ih p q4 (by omega)
        rw [q5] at this
        exact rch.cons ⟨y, ⟨q1, fun e => hn ⟨v, hv, q0, by rw [q2, e]⟩⟩, q7⟩ this
  obtain ⟨x1, x2, x3⟩ := h.2 x hx
  have k1 := key _ _ x1 rfl
  have k2 := key _ _ x2 rfl
  rw [← x3] at k2
  exact hA x hx (k1.trans (uE.rsymm k2))
end FO
/-- counting by a map one to one -/
theorem cntP_inj {P Q : Nat → Prop} {f : Nat → Nat} {m n : Nat} (hf : ∀ k, k < m → P k → f k < n ∧ Q (f k)) (hi : ∀ i j, i < m → j < m → P i → P j → f i = f j → i = j) : cntP P m ≤ cntP Q n := by
  induction m generalizing Q with
  | zero => exact Nat.zero_le _
  | succ m ih =>
    by_cases hp : P m
    · rw [cntP_succ_pos hp]
      obtain ⟨g1, g2⟩ := hf m (by omega) hp
      have h1 := ih (Q := fun v => Q v ∧ v ≠ f m) (fun k hk hpk => ⟨(hf k (by omega) hpk).1, (hf k (by omega) hpk).2, fun e => by
        have := hi k m (by omega) (by omega) hpk hp e
        omega⟩) (fun i j h1 h2 => hi i j (by omega) (by omega))
      have h2 : cntP Q n = cntP (fun v => (Q v ∧ v ≠ f m) ∨ v = f m) n := cntP_congr (fun v hv => ⟨fun q => by
        by_cases e : v = f m
        · exact Or.inr e
        · exact Or.inl ⟨q, e⟩, fun q => q.elim (fun q => q.1) (fun e => e ▸ g2)⟩)
      rw [cntP_insert g1 (fun q => q.2 rfl)] at h2
      omega
    · rw [cntP_succ_neg hp]
      exact ih (fun k hk => hf k (by omega)) (fun i j h1 h2 => hi i j (by omega) (by omega))
theorem cntP_not {P : Nat → Prop} {n : Nat} : cntP P n + cntP (fun v => ¬ P v) n = n := by
  have h := cntP_sum (P := P) (Q := fun v => ¬ P v) (n := n) (fun k _ q => q.2 q.1)
  have h2 : cntP (fun v => P v ∨ ¬ P v) n = n := by
    clear h
    induction n with
    | zero => rfl
    | succ n ih => rw [cntP_succ_pos (Classical.em _), ih]
  omega
/-- as many tree arcs as nodes that hang -/
theorem FO.count {n c : Nat} {A : Nat → Prop} {li fs sn rt dp : Nat → Nat} {pa up : Nat → Int} (h : FO n A fs sn rt dp pa up) (hA : ∀ x, A x → ∃ k, k < c ∧ li k = x) (hi : ∀ i j, i < c → j < c → li i = li j → i = j) :
    cntP (fun k => A (li k)) c + cntP (fun v => rt v = v) n = n := by
  have h1 := @cntP_not (fun v => rt v = v) n
  have e : cntP (fun k => A (li k)) c = cntP (fun v => ¬ rt v = v) n := by
    refine Nat.le_antisymm ?_ ?_
    · have hx : ∀ k, ∃ v, k < c → A (li k) → v < n ∧ rt v ≠ v ∧ up v = (li k : Int) := by
        intro k
        by_cases hk : A (li k)
        · obtain ⟨v, hv⟩ := h.2 _ hk
          exact ⟨v, fun _ _ => hv⟩
        · exact ⟨0, fun _ q => absurd q hk⟩
      refine cntP_inj (f := fun k => Classical.choose (hx k)) (fun k hk hp => ?_) (fun i j h1 h2 p1 p2 e => ?_)
      · have := Classical.choose_spec (hx k) hk hp
        exact ⟨this.1, this.2.1⟩
      · have g1 := Classical.choose_spec (hx i) h1 p1
        have g2 := Classical.choose_spec (hx j) h2 p2
        rw [e] at g1
        exact hi i j h1 h2 (by have := g1.2.2; have := g2.2.2; omega)
    · have hx : ∀ v, ∃ k, v < n → rt v ≠ v → k < c ∧ A (li k) ∧ up v = (li k : Int) := by
        intro v
        by_cases hv : v < n ∧ rt v ≠ v
        · rcases (h.1.1 v hv.1).2.2 with q | ⟨-, x, p, q1, q2, q3, q4, q5, q6, q7⟩
          · exact absurd q.1 hv.2
          · obtain ⟨k, k1, k2⟩ := hA x q1
            exact ⟨k, fun _ _ => ⟨k1, by rw [k2]; exact q1, by rw [k2]; exact q2⟩⟩
        · exact ⟨0, fun q1 q2 => absurd ⟨q1, q2⟩ hv⟩
      refine cntP_inj (f := fun v => Classical.choose (hx v)) (fun v hv hp => ?_) (fun i j h1 h2 p1 p2 e => ?_)
      · have := Classical.choose_spec (hx v) hv hp
        exact ⟨this.1, this.2.1⟩
      · have g1 := Classical.choose_spec (hx i) h1 p1
        have g2 := Classical.choose_spec (hx j) h2 p2
        rw [e] at g1
        have e2 : up i = up j := g1.2.2.trans g2.2.2.symm
        -- one arc, one lower end
        rcases (h.1.1 i h1).2.2 with q | ⟨-, x, p, q1, q2, q3, q4, q5, q6, q7⟩
        · exact absurd q.1 p1
        · rcases (h.1.1 j h2).2.2 with r | ⟨-, y, p', r1, r2, r3, r4, r5, r6, r7⟩
          · exact absurd r.1 p2
          · have : x = y := by omega
            subst this
            rcases q7 with ⟨rfl, rfl⟩ | ⟨rfl, rfl⟩ <;> rcases r7 with ⟨rfl, rfl⟩ | ⟨rfl, rfl⟩ <;> first | rfl | omega
  omega
