/-! THE WEB: rows of arcs and fans as they change -/
theorem fan_mono {n c : Nat} {li key F S : Nat → Nat} (h : fanOk n c li key F S) : ∀ {u v : Nat}, u ≤ v → v ≤ n → S u ≤ S v := by
  intro u v huv
  induction v with
  | zero => intro _; have : u = 0 := by omega
            subst this; exact Nat.le_refl _
  | succ v ih =>
    intro hv
    by_cases e : u = v + 1
    · subst e; exact Nat.le_refl _
    · have := ih (by omega) (by omega)
      have := h.2.2.1 v (by omega)
      omega
theorem fan_le {n c : Nat} {li key F S : Nat → Nat} (h : fanOk n c li key F S) {v : Nat} (hv : v ≤ n) : S v ≤ c := by
  have := fan_mono h hv (Nat.le_refl n)
  rw [h.2.1] at this
  exact this
/-- place i of a fan is node v's just if the arc's key is v -/
theorem fan_at {n c : Nat} {li key F S : Nat → Nat} (h : fanOk n c li key F S) {i v : Nat} (hi : i < c) (hv : v < n) : key (F i) = v ↔ S v ≤ i ∧ i < S (v + 1) := by
  obtain ⟨-, h1, h2, h3⟩ := h.2.2.2.1 i hi
  constructor
  · rintro rfl; exact ⟨h2, h3⟩
  · rintro ⟨g1, g2⟩
    rcases Nat.lt_trichotomy (key (F i)) v with q | q | q
    · have := fan_mono h (show key (F i) + 1 ≤ v from q) (by omega)
      omega
    · exact q
    · have := fan_mono h (show v + 1 ≤ key (F i) from q) (by omega)
      omega
theorem fan_node {n c : Nat} {li key F S : Nat → Nat} (h : fanOk n c li key F S) : fanOk (n + 1) c li key F (fun v => if v = n + 1 then c else S v) := by
  obtain ⟨h1, h2, h3, h4, h5, h6⟩ := h
  refine ⟨?_, ?_, ?_, ?_, h5, h6⟩
  · simp [h1]
  · simp
  · intro v hv
    by_cases e : v = n
    · subst e; simp [h2]
    · have := h3 v (by omega)
      simp [show ¬ v = n + 1 by omega, e, this]
  · intro i hi
    obtain ⟨g1, g2, g3, g4⟩ := h4 i hi
    refine ⟨g1, by omega, ?_, ?_⟩
    · simp [show ¬ key (F i) = n + 1 by omega, g3]
    · simp [show ¬ key (F i) = n by omega, g4]
theorem fan_add {n c x : Nat} {li key F S li' key' : Nat → Nat} (h : fanOk n c li key F S) (hv : key' x < n) (hx : ∀ k, k < c → li k < x) (hli : ∀ k, li' k = if k = c then x else li k) (hkey : ∀ y, y ≠ x → key' y = key y) :
    fanOk n (c + 1) li' key' (fun i => if i < S (key' x + 1) then F i else if i = S (key' x + 1) then x else F (i - 1)) (fun w => if w ≤ key' x then S w else S w + 1) := by
  have hat := fun i v (hi : i < c) (hv : v < n) => fan_at h hi hv
  have hmon := fun u v (h1 : u ≤ v) (h2 : v ≤ n) => fan_mono h h1 h2
  have hle := fan_le h (show key' x + 1 ≤ n from hv)
  obtain ⟨h1, h2, h3, h4, h5, h6⟩ := h
  have hF : ∀ i, i < c → F i < x ∧ key' (F i) = key (F i) := by
    intro i hi
    obtain ⟨⟨k, k1, k2⟩, -⟩ := h4 i hi
    have := hx k k1
    exact ⟨by omega, hkey _ (by omega)⟩
  obtain ⟨v, hve⟩ : ∃ v, v = key' x := ⟨_, rfl⟩
  rw [← hve] at hle hv ⊢
  -- what stands at a place
  have pos : ∀ i, i < c + 1 → (i = S (v + 1) ∧ (if i < S (v + 1) then F i else if i = S (v + 1) then x else F (i - 1)) = x) ∨
      (∃ j, j < c ∧ (if i < S (v + 1) then F i else if i = S (v + 1) then x else F (i - 1)) = F j ∧ ((j < S (v + 1) ∧ i = j) ∨ (S (v + 1) ≤ j ∧ i = j + 1))) := by
    intro i hi
    by_cases e1 : i < S (v + 1)
    · exact Or.inr ⟨i, by omega, by simp [e1], Or.inl ⟨e1, rfl⟩⟩
    · by_cases e2 : i = S (v + 1)
      · exact Or.inl ⟨e2, by simp [e2]⟩
      · exact Or.inr ⟨i - 1, by omega, by simp [e1, e2], Or.inr ⟨by omega, by omega⟩⟩
  refine ⟨?_, ?_, ?_, ?_, ?_, ?_⟩
  · simp [h1]
  · simp [show ¬ n ≤ v by omega, h2]
  · intro w hw
    have := h3 w hw
    dsimp only
    split <;> split <;> omega
  · intro i hi
    dsimp only
    rcases pos i hi with ⟨e, e2⟩ | ⟨j, j1, j2, j3⟩
    · rw [e2, ← hve]
      have := hmon v (v + 1) (by omega) (by omega)
      refine ⟨⟨c, by omega, by rw [hli, if_pos rfl]⟩, hv, ?_, ?_⟩
      · rw [if_pos (Nat.le_refl _)]; omega
      · rw [if_neg (by omega)]; omega
    · rw [j2, (hF j j1).2]
      obtain ⟨⟨k, k1, k2⟩, g2, g3, g4⟩ := h4 j j1
      refine ⟨⟨k, by omega, by rw [hli, if_neg (by omega), k2]⟩, g2, ?_, ?_⟩
      · split
        · omega
        · rename_i q
          have := hmon (v + 1) (key (F j)) (by omega) (by omega)
          omega
      · split
        · rename_i q
          have := hmon (key (F j) + 1) (v + 1) (by omega) (by omega)
          omega
        · omega
  · intro i j hij hj
    dsimp only
    rcases pos i (by omega) with ⟨e, e2⟩ | ⟨i', i1, i2, i3⟩ <;> rcases pos j hj with ⟨f, f2⟩ | ⟨j', j1, j2, j3⟩
    · omega
    · rw [e2, j2, (hF j' j1).2, ← hve]
      intro q
      have := (hat j' v j1 hv).mp q.symm
      omega
    · rw [i2, f2]
      intro _
      exact (hF i' i1).1
    · rw [i2, j2, (hF i' i1).2, (hF j' j1).2]
      exact h5 i' j' (by omega) j1
  · intro k hk
    by_cases e : k = c
    · refine ⟨S (v + 1), by omega, ?_⟩
      rw [hli, if_pos e]; simp
    · obtain ⟨i, i1, i2⟩ := h6 k (by omega)
      rw [hli, if_neg e]
      by_cases q : i < S (v + 1)
      · exact ⟨i, by omega, by simp [q, i2]⟩
      · exact ⟨i + 1, by omega, by simp [show ¬ i + 1 < S (v + 1) by omega, show ¬ i + 1 = S (v + 1) by omega, i2]⟩
theorem fan_rem {n c x p q : Nat} {li key F S li' F' : Nat → Nat} (h : fanOk n c li key F S) (hi : ∀ i j, i < c → j < c → li i = li j → i = j) (hq : q < c) (hqx : li q = x) (hp : p < c) (hpx : F p = x)
    (hli : ∀ k, k < c - 1 → li' k = if k < q then li k else li (k + 1)) (hF' : ∀ i, i < c - 1 → F' i = if i < p then F i else F (i + 1)) :
    fanOk n (c - 1) li' key F' (fun w => if w ≤ key x then S w else S w - 1) := by
  have hat := fun i v (hi : i < c) (hv : v < n) => fan_at h hi hv
  have hmon := fun u v (h1 : u ≤ v) (h2 : v ≤ n) => fan_mono h h1 h2
  have hlt := fun v (hv : v ≤ n) => fan_le h hv
  obtain ⟨h1, h2, h3, h4, h5, h6⟩ := h
  obtain ⟨-, kx1, kx2, kx3⟩ := h4 p hp
  rw [hpx] at kx1 kx2 kx3
  have hFi : ∀ i j, i < c → j < c → F i = F j → i = j := by
    intro i j a b e
    rcases Nat.lt_trichotomy i j with r | r | r
    · have := h5 i j r b (by rw [e]); omega
    · exact r
    · have := h5 j i r a (by rw [e]); omega
  have pos : ∀ i, i < c - 1 → ∃ j, j < c ∧ j ≠ p ∧ F' i = F j ∧ ((j < p ∧ i = j) ∨ (p < j ∧ i + 1 = j)) := by
    intro i hi
    rw [hF' i hi]
    by_cases e : i < p
    · exact ⟨i, by omega, by omega, if_pos e, Or.inl ⟨e, rfl⟩⟩
    · exact ⟨i + 1, by omega, by omega, if_neg e, Or.inr ⟨by omega, rfl⟩⟩
  refine ⟨?_, ?_, ?_, ?_, ?_, ?_⟩
  · simp [h1]
  · simp [show ¬ n ≤ key x by omega, h2]
  · intro w hw
    have := h3 w hw
    have := hmon (key x + 1) (w + 1)
    have ew : w = key x → S w = S (key x) ∧ S (w + 1) = S (key x + 1) := fun e => by rw [e]; exact ⟨rfl, rfl⟩
    dsimp only
    split <;> split <;> omega
  · intro i hi
    obtain ⟨j, j1, j0, j2, j3⟩ := pos i hi
    rw [j2]
    obtain ⟨⟨k, k1, k2⟩, g2, g3, g4⟩ := h4 j j1
    have ew : key (F j) = key x → S (key (F j)) = S (key x) ∧ S (key (F j) + 1) = S (key x + 1) := fun e => by rw [e]; exact ⟨rfl, rfl⟩
    refine ⟨?_, g2, ?_, ?_⟩
    · have hkq : k ≠ q := fun e => j0 (hFi j p j1 hp (by rw [← k2, e, hqx, hpx]))
      rcases Nat.lt_or_ge k q with r | r
      · exact ⟨k, by omega, by rw [hli k (by omega), if_pos r, k2]⟩
      · exact ⟨k - 1, by omega, by rw [hli (k - 1) (by omega), if_neg (by omega), show k - 1 + 1 = k by omega, k2]⟩
    · dsimp only
      split
      · rename_i r
        rcases Nat.lt_or_ge (key (F j)) (key x) with r2 | r2
        · have := hmon (key (F j) + 1) (key x) (by omega) (by omega)
          omega
        · omega
      · have := hmon (key x + 1) (key (F j)) (by omega) (by omega)
        omega
    · dsimp only
      split
      · have := hmon (key (F j) + 1) (key x) (by omega) (by omega)
        omega
      · rename_i r
        rcases Nat.lt_or_ge (key x) (key (F j)) with r2 | r2
        · have := hmon (key x + 1) (key (F j)) (by omega) (by omega)
          omega
        · omega
  · intro i j hij hj
    obtain ⟨i', i1, i0, i2, i3⟩ := pos i (by omega)
    obtain ⟨j', j1, j0, j2, j3⟩ := pos j hj
    rw [i2, j2]
    exact h5 i' j' (by omega) j1
  · intro k hk
    rw [hli k hk]
    obtain ⟨k', hk', ek, hkq⟩ : ∃ k', k' < c ∧ (if k < q then li k else li (k + 1)) = li k' ∧ k' ≠ q := by
      by_cases e : k < q
      · exact ⟨k, by omega, if_pos e, by omega⟩
      · exact ⟨k + 1, by omega, if_neg e, by omega⟩
    rw [ek]
    obtain ⟨i, i1, i2⟩ := h6 k' hk'
    have hip : i ≠ p := fun e => hkq (hi k' q hk' hq (by rw [← i2, e, hpx, hqx]))
    rcases Nat.lt_or_ge i p with r | r
    · exact ⟨i, by omega, by rw [hF' i (by omega), if_pos r, i2]⟩
    · exact ⟨i - 1, by omega, by rw [hF' (i - 1) (by omega), if_neg (by omega), show i - 1 + 1 = i by omega, i2]⟩
/-- the numbers of a graph: n nodes, c arcs there of ar that were put, their row, their ends -/
def gOk (n c ar : Nat) (li fs sn : Nat → Nat) : Prop := n ≤ 300 ∧ c ≤ 900 ∧ ar ≤ 5000 ∧ (∀ k, k < c → li k < ar ∧ fs (li k) < n ∧ sn (li k) < n) ∧ (∀ i j, i < j → j < c → li i < li j)
theorem gOk.inj {n c ar : Nat} {li fs sn : Nat → Nat} (h : gOk n c ar li fs sn) : ∀ i j, i < c → j < c → li i = li j → i = j := by
  intro i j hi hj e
  rcases Nat.lt_trichotomy i j with r | r | r
  · have := h.2.2.2.2 i j r hj; omega
  · exact r
  · have := h.2.2.2.2 j i r hi; omega
/-- an arc is there -/
def th (c : Nat) (li : Nat → Nat) (x : Nat) : Prop := ∃ k, k < c ∧ li k = x
/-- the class's web holds the graph -/
def Wb (s : kS) (n c ar : Nat) (li fs sn : Nat → Nat) : Prop := s 1 3 = (n : Int) ∧ s 1 4 = (c : Int) ∧ s 1 9 = (ar : Int) ∧ (∀ x, s 15 x = (fs x : Int)) ∧ (∀ x, s 16 x = (sn x : Int)) ∧ (∀ k, k < c → s 17 k = (li k : Int)) ∧
  (∀ x, x < ar → (s 18 x = 0 ∨ s 18 x = 1) ∧ (s 18 x = 1 ↔ th c li x)) ∧ ∃ Fo So Fi Si, Fr s 2 19 20 n c Fo So ∧ fanOk n c li fs Fo So ∧ Fr s 3 21 22 n c Fi Si ∧ fanOk n c li sn Fi Si
/-- what the web is made of -/
def isWb (o : Nat) : Prop := o = 1 ∨ o = 2 ∨ o = 3 ∨ (15 ≤ o ∧ o ≤ 22)
theorem Fr.agree {s s' : kS} {o a st n c : Nat} {F S : Nat → Nat} (h : Fr s o a st n c F S) (h1 : ∀ k, s' o k = s o k) (h2 : ∀ k, s' a k = s a k) (h3 : ∀ k, s' st k = s st k) : Fr s' o a st n c F S := by
  unfold Fr at h ⊢
  refine ⟨by rw [h1]; exact h.1, by rw [h1]; exact h.2.1, fun i hi => by rw [h2]; exact h.2.2.1 i hi, fun v hv => by rw [h3]; exact h.2.2.2 v hv⟩
theorem Wb.agree {s s' : kS} {n c ar : Nat} {li fs sn : Nat → Nat} (h : Wb s n c ar li fs sn) (hs : ∀ o k, isWb o → s' o k = s o k) : Wb s' n c ar li fs sn := by
  have e : ∀ o, isWb o → s' o = s o := fun o ho => funext fun k => hs o k ho
  unfold Wb at h ⊢
  rw [e 1 (by unfold isWb; omega), e 15 (by unfold isWb; omega), e 16 (by unfold isWb; omega), e 17 (by unfold isWb; omega), e 18 (by unfold isWb; omega)]
  obtain ⟨h1, h2, h3, h4, h5, h6, h7, Fo, So, Fi, Si, h8, h9, h10, h11⟩ := h
  exact ⟨h1, h2, h3, h4, h5, h6, h7, Fo, So, Fi, Si, h8.agree (fun k => hs 2 k (by unfold isWb; omega)) (fun k => hs 19 k (by unfold isWb; omega)) (fun k => hs 20 k (by unfold isWb; omega)), h9, h10.agree (fun k => hs 3 k (by unfold isWb; omega)) (fun k => hs 21 k (by unfold isWb; omega)) (fun k => hs 22 k (by unfold isWb; omega)), h11⟩
/-- how many arcs are at a node, and which: the k-th -/
def dgr (So Si : Nat → Nat) (v : Nat) : Nat := So (v + 1) - So v + (Si (v + 1) - Si v)
def atK (Fo So Fi Si : Nat → Nat) (v k : Nat) : Nat := if k < So (v + 1) - So v then Fo (So v + k) else Fi (Si v + k - (So (v + 1) - So v))
def othr (fs sn : Nat → Nat) (x v : Nat) : Nat := if fs x = v then sn x else fs x
theorem at_there {n c : Nat} {li fs sn Fo So Fi Si : Nat → Nat} (h1 : fanOk n c li fs Fo So) (h2 : fanOk n c li sn Fi Si) {v k : Nat} (hv : v < n) (hk : k < dgr So Si v) :
    th c li (atK Fo So Fi Si v k) ∧ (fs (atK Fo So Fi Si v k) = v ∨ sn (atK Fo So Fi Si v k) = v) := by
  unfold dgr at hk
  unfold atK
  have a1 := fan_le h1 (show v + 1 ≤ n from hv)
  have a2 := fan_le h2 (show v + 1 ≤ n from hv)
  have a3 := h2.2.2.1 v hv
  split
  · rename_i q
    exact ⟨(h1.2.2.2.1 _ (by omega)).1, Or.inl ((fan_at h1 (by omega) hv).mpr ⟨by omega, by omega⟩)⟩
  · rename_i q
    exact ⟨(h2.2.2.2.1 _ (by omega)).1, Or.inr ((fan_at h2 (by omega) hv).mpr ⟨by omega, by omega⟩)⟩
theorem at_all {n c : Nat} {li fs sn Fo So Fi Si : Nat → Nat} (h1 : fanOk n c li fs Fo So) (h2 : fanOk n c li sn Fi Si) {v x : Nat} (hv : v < n) (hx : th c li x) (hx2 : fs x = v ∨ sn x = v) : ∃ k, k < dgr So Si v ∧ atK Fo So Fi Si v k = x := by
  obtain ⟨k, hk, rfl⟩ := hx
  unfold dgr atK
  have a1 := h1.2.2.1 v hv
  have a2 := h2.2.2.1 v hv
  rcases hx2 with e | e
  · obtain ⟨i, i1, i2⟩ := h1.2.2.2.2.2 k hk
    have := (fan_at h1 i1 hv).mp (by rw [i2]; exact e)
    exact ⟨i - So v, by omega, by rw [if_pos (by omega), show So v + (i - So v) = i by omega, i2]⟩
  · obtain ⟨i, i1, i2⟩ := h2.2.2.2.2.2 k hk
    have := (fan_at h2 i1 hv).mp (by rw [i2]; exact e)
    exact ⟨So (v + 1) - So v + (i - Si v), by omega, by rw [if_neg (by omega), show Si v + (So (v + 1) - So v + (i - Si v)) - (So (v + 1) - So v) = i by omega, i2]⟩
theorem othr_at {fs sn : Nat → Nat} {x v : Nat} (h : fs x = v ∨ sn x = v) : (fs x = v ∧ sn x = othr fs sn x v) ∨ (sn x = v ∧ fs x = othr fs sn x v) := by
  unfold othr
  split
  · rename_i q; exact Or.inl ⟨q, rfl⟩
  · rename_i q; exact Or.inr ⟨h.elim (fun e => absurd e q) id, rfl⟩
theorem othr_eq {fs sn : Nat → Nat} {x u v : Nat} (h : (fs x = u ∧ sn x = v) ∨ (sn x = u ∧ fs x = v)) : othr fs sn x u = v := by
  unfold othr
  split <;> grind
/-- the neighbour relation by places at a node -/
theorem at_uE {n c : Nat} {li fs sn Fo So Fi Si : Nat → Nat} (h1 : fanOk n c li fs Fo So) (h2 : fanOk n c li sn Fi Si) {P : Nat → Prop} {u v : Nat} (hu : u < n) :
    uE (fun x => th c li x ∧ P x) fs sn u v ↔ ∃ k, k < dgr So Si u ∧ P (atK Fo So Fi Si u k) ∧ othr fs sn (atK Fo So Fi Si u k) u = v := by
  constructor
  · rintro ⟨x, ⟨x1, x2⟩, x3⟩
    obtain ⟨k, k1, k2⟩ := at_all h1 h2 hu x1 (x3.elim (fun q => Or.inl q.1) (fun q => Or.inr q.1))
    exact ⟨k, k1, by rw [k2]; exact x2, by rw [k2]; exact othr_eq x3⟩
  · rintro ⟨k, k1, k2, rfl⟩
    obtain ⟨g1, g2⟩ := at_there h1 h2 hu k1
    exact ⟨_, ⟨g1, k2⟩, othr_at g2⟩
/-! the web's methods -/
section W
variable {σ : kS} {n c ar : Nat} {li fs sn : Nat → Nat}
theorem webHasNode_ok {v : Int} (h : σ 1 3 = (n : Int)) : wpF F_Web_hasNode [.inr (.inl 1), .inl v] σ (fun r s => s = σ ∧ r = some (.inl (if 0 ≤ v ∧ v < (n : Int) then 1 else 0))) := by
  unfold F_Web_hasNode
  rw [wpF_kF]
  refine ⟨rfl, rfl, ?_⟩
  unfold s_Web_hasNode
  simp only [List.map_cons, List.map_nil]
  refine wpS_gen (fun Q1 hQ1 => ?_)
  simp only [wpS_skip, wpS_break, wpS_cont, wpS_retV, wpS_throw, wpS_seq, wpS_if, wpS_trunc, yS_let, yS_inc, kgK_i, kgK_r, kok_nil, kok_i0, kok_is, kok_r0, kok_rs, kok_n0, kok_ns, xS_put, xS_putOp, xS_ast0, xS_ast1, xS_astOp, wpS_E, wpS_call, wpS_callS, wpS_ret, kThen_N, kThen_B, kThen_C, kThen_R, kThen_T, kNext_N, kNext_C, kNext_B, kNext_R, wpE_K, wpE_KL, xE_I, xE_R, wpE_J, xE_bin, wpE_ladd, wpE_i2l, xE_get, xE_ald0, xE_ald1, wpE_if, xE_max, xE_min, wpE_len, wpA_nil, wpA_snoc, xE_call, xE_callS, xC_C, xC_L, xC_Z, wpC_and, wpC_or, wpC_not, wpC_if, kcmp_0, kcmp_1, kcmp_2, kcmp_3, kcmp_4, kcmp_5, rR_inj, kgO_some, kgO_add, kgO_sub, kgO_mul, kgO_div, kgO_rem, kgO_and, kvI_inl, kvJ_inl, kgI_0, kgI_s, kgR_0, kgR_s, kst_nil, kst_0, kst_s, kNLl_nil, kNLl_i, kNLl_r, kNLl_n, ktag_i, ktag_r, List.length_cons, List.length_nil, List.take_succ_cons, List.take_zero, List.take_nil, List.nil_append, List.cons_append, decide_eq_true_eq, Bool.not_eq_true, Bool.not_eq_true', decide_eq_false_iff_not, ne_eq, Decidable.not_not, true_and, and_true, Nat.reduceAdd, Nat.reduceLeDiff, Nat.reduceEqDiff, Nat.le_refl, not_true_eq_false, not_false_eq_true, reduceIte, eq_self, Int.reduceNeg, Int.reduceEq, Int.reduceLT, Int.reduceLE, Nat.zero_le, Nat.one_ne_zero, ev_web, ev_web_arr, h]
  by_cases h1 : 0 ≤ v <;> by_cases h2 : v < (n : Int) <;> simp only [h1, h2, if_true, if_false, decide_true, decide_false, Bool.false_eq_true] <;> (rw [hQ1]; refine ⟨_, rfl, rfl, rfl, ?_⟩) <;> simp [h1, h2]
theorem webHasArc_ok {v : Int} (h : Wb σ n c ar li fs sn) (ha : ar ≤ 5000) : wpF F_Web_hasArc [.inr (.inl 1), .inl v] σ (fun r s => s = σ ∧ ((0 ≤ v ∧ v < (ar : Int) ∧ th c li v.toNat ∧ r = some (.inl 1)) ∨ (¬ (0 ≤ v ∧ v < (ar : Int) ∧ th c li v.toNat) ∧ r = some (.inl 0)))) := by
  obtain ⟨-, -, e9, -, -, -, e18, -⟩ := h
  unfold F_Web_hasArc
  rw [wpF_kF]
  refine ⟨rfl, rfl, ?_⟩
  unfold s_Web_hasArc
  simp only [List.map_cons, List.map_nil]
  refine wpS_gen (fun Q1 hQ1 => ?_)
  simp only [wpS_skip, wpS_break, wpS_cont, wpS_retV, wpS_throw, wpS_seq, wpS_if, wpS_trunc, yS_let, yS_inc, kgK_i, kgK_r, kok_nil, kok_i0, kok_is, kok_r0, kok_rs, kok_n0, kok_ns, xS_put, xS_putOp, xS_ast0, xS_ast1, xS_astOp, wpS_E, wpS_call, wpS_callS, wpS_ret, kThen_N, kThen_B, kThen_C, kThen_R, kThen_T, kNext_N, kNext_C, kNext_B, kNext_R, wpE_K, wpE_KL, xE_I, xE_R, wpE_J, xE_bin, wpE_ladd, wpE_i2l, xE_get, xE_ald0, xE_ald1, wpE_if, xE_max, xE_min, wpE_len, wpA_nil, wpA_snoc, xE_call, xE_callS, xC_C, xC_L, xC_Z, wpC_and, wpC_or, wpC_not, wpC_if, kcmp_0, kcmp_1, kcmp_2, kcmp_3, kcmp_4, kcmp_5, rR_inj, kgO_some, kgO_add, kgO_sub, kgO_mul, kgO_div, kgO_rem, kgO_and, kvI_inl, kvJ_inl, kgI_0, kgI_s, kgR_0, kgR_s, kst_nil, kst_0, kst_s, kNLl_nil, kNLl_i, kNLl_r, kNLl_n, ktag_i, ktag_r, List.length_cons, List.length_nil, List.take_succ_cons, List.take_zero, List.take_nil, List.nil_append, List.cons_append, decide_eq_true_eq, Bool.not_eq_true, Bool.not_eq_true', decide_eq_false_iff_not, ne_eq, Decidable.not_not, true_and, and_true, Nat.reduceAdd, Nat.reduceLeDiff, Nat.reduceEqDiff, Nat.le_refl, not_true_eq_false, not_false_eq_true, reduceIte, eq_self, Int.reduceNeg, Int.reduceEq, Int.reduceLT, Int.reduceLE, Nat.zero_le, Nat.one_ne_zero, ev_web, ev_web_arr, e9]
  by_cases h1 : 0 ≤ v
  · by_cases h2 : v < (ar : Int)
    · obtain ⟨g1, g2⟩ := e18 v.toNat (by omega)
      simp only [h1, h2, decide_true, decide_false, Bool.false_eq_true, if_true, if_false, true_and, and_true, not_true_eq_false, not_false_eq_true]
      refine ⟨by omega, ?_⟩
      by_cases h3 : σ 18 v.toNat = 0
      · have : ¬ th c li v.toNat := fun q => by have := g2.mpr q; omega
        simp only [h3, not_true_eq_false, if_true, if_false, decide_true, decide_false, Bool.false_eq_true]
        rw [hQ1]
        exact ⟨_, rfl, rfl, rfl, by grind⟩
      · have : th c li v.toNat := g2.mp (by omega)
        simp only [h3, not_false_eq_true, if_true, if_false, decide_true, decide_false, Bool.false_eq_true]
        rw [hQ1]
        exact ⟨_, rfl, rfl, rfl, by grind⟩
    · simp only [h1, h2, if_true, if_false, decide_true, decide_false, Bool.false_eq_true]
      rw [hQ1]
      exact ⟨_, rfl, rfl, rfl, by grind⟩
  · simp only [h1, if_true, if_false, decide_true, decide_false, Bool.false_eq_true]
    rw [hQ1]
    exact ⟨_, rfl, rfl, rfl, by grind⟩
theorem webHasRoom_ok {m : Int} (h1 : σ 1 4 = (c : Int)) (h2 : σ 1 9 = (ar : Int)) (hc : c ≤ 900) (ha : ar ≤ 5000) : wpF F_Web_hasRoom [.inr (.inl 1), .inl m] σ (fun r s => s = σ ∧ r = some (.inl (if m ≤ 900 - (c : Int) ∧ m ≤ 5000 - (ar : Int) then 1 else 0))) := by
  unfold F_Web_hasRoom
  rw [wpF_kF]
  refine ⟨rfl, rfl, ?_⟩
  unfold s_Web_hasRoom
  simp only [List.map_cons, List.map_nil]
  refine wpS_gen (fun Q1 hQ1 => ?_)
  simp only [wpS_skip, wpS_break, wpS_cont, wpS_retV, wpS_throw, wpS_seq, wpS_if, wpS_trunc, yS_let, yS_inc, kgK_i, kgK_r, kok_nil, kok_i0, kok_is, kok_r0, kok_rs, kok_n0, kok_ns, xS_put, xS_putOp, xS_ast0, xS_ast1, xS_astOp, wpS_E, wpS_call, wpS_callS, wpS_ret, kThen_N, kThen_B, kThen_C, kThen_R, kThen_T, kNext_N, kNext_C, kNext_B, kNext_R, wpE_K, wpE_KL, xE_I, xE_R, wpE_J, xE_bin, wpE_ladd, wpE_i2l, xE_get, xE_ald0, xE_ald1, wpE_if, xE_max, xE_min, wpE_len, wpA_nil, wpA_snoc, xE_call, xE_callS, xC_C, xC_L, xC_Z, wpC_and, wpC_or, wpC_not, wpC_if, kcmp_0, kcmp_1, kcmp_2, kcmp_3, kcmp_4, kcmp_5, rR_inj, kgO_some, kgO_add, kgO_sub, kgO_mul, kgO_div, kgO_rem, kgO_and, kvI_inl, kvJ_inl, kgI_0, kgI_s, kgR_0, kgR_s, kst_nil, kst_0, kst_s, kNLl_nil, kNLl_i, kNLl_r, kNLl_n, ktag_i, ktag_r, List.length_cons, List.length_nil, List.take_succ_cons, List.take_zero, List.take_nil, List.nil_append, List.cons_append, decide_eq_true_eq, Bool.not_eq_true, Bool.not_eq_true', decide_eq_false_iff_not, ne_eq, Decidable.not_not, true_and, and_true, Nat.reduceAdd, Nat.reduceLeDiff, Nat.reduceEqDiff, Nat.le_refl, not_true_eq_false, not_false_eq_true, reduceIte, eq_self, Int.reduceNeg, Int.reduceEq, Int.reduceLT, Int.reduceLE, Nat.zero_le, Nat.one_ne_zero, ev_web, ev_web_arr, h1, h2]
  refine ⟨by omega, ?_⟩
  by_cases h1 : m ≤ 900 - (c : Int) <;> simp only [h1, if_true, if_false, decide_true, decide_false, Bool.false_eq_true]
  · refine ⟨by omega, ?_⟩
    by_cases h2 : m ≤ 5000 - (ar : Int) <;> simp only [h2, if_true, if_false, decide_true, decide_false, Bool.false_eq_true] <;> (rw [hQ1]; refine ⟨_, rfl, rfl, rfl, ?_⟩) <;> simp [h1, h2]
  · rw [hQ1]; refine ⟨_, rfl, rfl, rfl, ?_⟩; simp [h1]
theorem webOther_ok {x v : Nat} (h4 : ∀ x, σ 15 x = (fs x : Int)) (h5 : ∀ x, σ 16 x = (sn x : Int)) (hx : x < 5000) : wpF F_Web_other [.inr (.inl 1), .inl (x : Int), .inl (v : Int)] σ (fun r s => s = σ ∧ r = some (.inl (othr fs sn x v : Int))) := by
  unfold F_Web_other
  rw [wpF_kF]
  refine ⟨rfl, rfl, ?_⟩
  unfold s_Web_other
  simp only [List.map_cons, List.map_nil]
  refine wpS_gen (fun Q1 hQ1 => ?_)
  simp only [wpS_skip, wpS_break, wpS_cont, wpS_retV, wpS_throw, wpS_seq, wpS_if, wpS_trunc, yS_let, yS_inc, kgK_i, kgK_r, kok_nil, kok_i0, kok_is, kok_r0, kok_rs, kok_n0, kok_ns, xS_put, xS_putOp, xS_ast0, xS_ast1, xS_astOp, wpS_E, wpS_call, wpS_callS, wpS_ret, kThen_N, kThen_B, kThen_C, kThen_R, kThen_T, kNext_N, kNext_C, kNext_B, kNext_R, wpE_K, wpE_KL, xE_I, xE_R, wpE_J, xE_bin, wpE_ladd, wpE_i2l, xE_get, xE_ald0, xE_ald1, wpE_if, xE_max, xE_min, wpE_len, wpA_nil, wpA_snoc, xE_call, xE_callS, xC_C, xC_L, xC_Z, wpC_and, wpC_or, wpC_not, wpC_if, kcmp_0, kcmp_1, kcmp_2, kcmp_3, kcmp_4, kcmp_5, rR_inj, kgO_some, kgO_add, kgO_sub, kgO_mul, kgO_div, kgO_rem, kgO_and, kvI_inl, kvJ_inl, kgI_0, kgI_s, kgR_0, kgR_s, kst_nil, kst_0, kst_s, kNLl_nil, kNLl_i, kNLl_r, kNLl_n, ktag_i, ktag_r, List.length_cons, List.length_nil, List.take_succ_cons, List.take_zero, List.take_nil, List.nil_append, List.cons_append, decide_eq_true_eq, Bool.not_eq_true, Bool.not_eq_true', decide_eq_false_iff_not, ne_eq, Decidable.not_not, true_and, and_true, Nat.reduceAdd, Nat.reduceLeDiff, Nat.reduceEqDiff, Nat.le_refl, not_true_eq_false, not_false_eq_true, reduceIte, eq_self, Int.reduceNeg, Int.reduceEq, Int.reduceLT, Int.reduceLE, Nat.zero_le, Nat.one_ne_zero, ev_web, ev_web_arr, Int.toNat_natCast, h4, h5]
  refine ⟨by omega, ?_⟩
  by_cases h1 : fs x = v
  · simp only [h1, if_true, decide_true]
    refine ⟨by omega, ?_⟩
    rw [hQ1]
    exact ⟨_, rfl, rfl, rfl, by simp [othr, h1]⟩
  · have h2 : ¬ (fs x : Int) = v := by omega
    simp only [h1, h2, if_false, decide_false, Bool.false_eq_true]
    refine ⟨by omega, ?_⟩
    rw [hQ1]
    exact ⟨_, rfl, rfl, rfl, by simp [othr, h1]⟩
theorem webDegree_ok {Fo So Fi Si : Nat → Nat} {v : Nat} (h1 : Fr σ 2 19 20 n c Fo So) (h2 : fanOk n c li fs Fo So) (h3 : Fr σ 3 21 22 n c Fi Si) (h4 : fanOk n c li sn Fi Si) (hn : n ≤ 300) (hc : c ≤ 900) (hv : v < n) :
    wpF F_Web_degree [.inr (.inl 1), .inl (v : Int)] σ (fun r s => s = σ ∧ r = some (.inl (dgr So Si v : Int))) := by
  have e1 := h1.2.2.2 v (by omega)
  have e2 := h1.2.2.2 (v + 1) (by omega)
  have e3 := h3.2.2.2 v (by omega)
  have e4 := h3.2.2.2 (v + 1) (by omega)
  have a1 := h2.2.2.1 v hv
  have a2 := h4.2.2.1 v hv
  have a3 := fan_le h2 (show v + 1 ≤ n from hv)
  have a4 := fan_le h4 (show v + 1 ≤ n from hv)
  have t1 : ((v : Int) + 1).toNat = v + 1 := by omega
  unfold F_Web_degree
  rw [wpF_kF]
  refine ⟨rfl, rfl, ?_⟩
  unfold s_Web_degree
  simp only [List.map_cons, List.map_nil]
  refine wpS_gen (fun Q1 hQ1 => ?_)
  simp only [wpS_skip, wpS_break, wpS_cont, wpS_retV, wpS_throw, wpS_seq, wpS_if, wpS_trunc, yS_let, yS_inc, kgK_i, kgK_r, kok_nil, kok_i0, kok_is, kok_r0, kok_rs, kok_n0, kok_ns, xS_put, xS_putOp, xS_ast0, xS_ast1, xS_astOp, wpS_E, wpS_call, wpS_callS, wpS_ret, kThen_N, kThen_B, kThen_C, kThen_R, kThen_T, kNext_N, kNext_C, kNext_B, kNext_R, wpE_K, wpE_KL, xE_I, xE_R, wpE_J, xE_bin, wpE_ladd, wpE_i2l, xE_get, xE_ald0, xE_ald1, wpE_if, xE_max, xE_min, wpE_len, wpA_nil, wpA_snoc, xE_call, xE_callS, xC_C, xC_L, xC_Z, wpC_and, wpC_or, wpC_not, wpC_if, kcmp_0, kcmp_1, kcmp_2, kcmp_3, kcmp_4, kcmp_5, rR_inj, kgO_some, kgO_add, kgO_sub, kgO_mul, kgO_div, kgO_rem, kgO_and, kvI_inl, kvJ_inl, kgI_0, kgI_s, kgR_0, kgR_s, kst_nil, kst_0, kst_s, kNLl_nil, kNLl_i, kNLl_r, kNLl_n, ktag_i, ktag_r, List.length_cons, List.length_nil, List.take_succ_cons, List.take_zero, List.take_nil, List.nil_append, List.cons_append, decide_eq_true_eq, Bool.not_eq_true, Bool.not_eq_true', decide_eq_false_iff_not, ne_eq, Decidable.not_not, true_and, and_true, Nat.reduceAdd, Nat.reduceLeDiff, Nat.reduceEqDiff, Nat.le_refl, not_true_eq_false, not_false_eq_true, reduceIte, eq_self, Int.reduceNeg, Int.reduceEq, Int.reduceLT, Int.reduceLE, Nat.zero_le, Nat.one_ne_zero, ev_web, ev_web_arr, ev_fout, ev_fout_arr, ev_fin, ev_fin_arr, Int.toNat_natCast, t1, e1, e2, e3, e4]
  repeat refine And.intro (by omega) ?_
  rw [hQ1]
  refine ⟨_, rfl, rfl, rfl, ?_⟩
  have : (dgr So Si v : Int) = (So (v + 1) : Int) - So v + Si (v + 1) - Si v := by unfold dgr; omega
  rw [this]
theorem webArcAt_ok {Fo So Fi Si : Nat → Nat} {v k : Nat} (h1 : Fr σ 2 19 20 n c Fo So) (h2 : fanOk n c li fs Fo So) (h3 : Fr σ 3 21 22 n c Fi Si) (h4 : fanOk n c li sn Fi Si) (hn : n ≤ 300) (hc : c ≤ 900) (hv : v < n) (hk : k < dgr So Si v) :
    wpF F_Web_arcAt [.inr (.inl 1), .inl (v : Int), .inl (k : Int)] σ (fun r s => s = σ ∧ r = some (.inl (atK Fo So Fi Si v k : Int))) := by
  have e1 := h1.2.2.2 v (by omega)
  have e2 := h1.2.2.2 (v + 1) (by omega)
  have e3 := h3.2.2.2 v (by omega)
  have e4 := h3.2.2.2 (v + 1) (by omega)
  have a1 := h2.2.2.1 v hv
  have a2 := h4.2.2.1 v hv
  have a3 := fan_le h2 (show v + 1 ≤ n from hv)
  have a4 := fan_le h4 (show v + 1 ≤ n from hv)
  have t1 : ((v : Int) + 1).toNat = v + 1 := by omega
  unfold dgr at hk
  unfold F_Web_arcAt
  rw [wpF_kF]
  refine ⟨rfl, rfl, ?_⟩
  unfold s_Web_arcAt
  simp only [List.map_cons, List.map_nil]
  refine wpS_seq' (fun Q101 hQ101 => ?_)
  simp only [wpS_skip, wpS_break, wpS_cont, wpS_retV, wpS_throw, wpS_seq, wpS_if, wpS_trunc, yS_let, yS_inc, kgK_i, kgK_r, kok_nil, kok_i0, kok_is, kok_r0, kok_rs, kok_n0, kok_ns, xS_put, xS_putOp, xS_ast0, xS_ast1, xS_astOp, wpS_E, wpS_call, wpS_callS, wpS_ret, kThen_N, kThen_B, kThen_C, kThen_R, kThen_T, kNext_N, kNext_C, kNext_B, kNext_R, wpE_K, wpE_KL, xE_I, xE_R, wpE_J, xE_bin, wpE_ladd, wpE_i2l, xE_get, xE_ald0, xE_ald1, wpE_if, xE_max, xE_min, wpE_len, wpA_nil, wpA_snoc, xE_call, xE_callS, xC_C, xC_L, xC_Z, wpC_and, wpC_or, wpC_not, wpC_if, kcmp_0, kcmp_1, kcmp_2, kcmp_3, kcmp_4, kcmp_5, rR_inj, kgO_some, kgO_add, kgO_sub, kgO_mul, kgO_div, kgO_rem, kgO_and, kvI_inl, kvJ_inl, kgI_0, kgI_s, kgR_0, kgR_s, kst_nil, kst_0, kst_s, kNLl_nil, kNLl_i, kNLl_r, kNLl_n, ktag_i, ktag_r, List.length_cons, List.length_nil, List.take_succ_cons, List.take_zero, List.take_nil, List.nil_append, List.cons_append, decide_eq_true_eq, Bool.not_eq_true, Bool.not_eq_true', decide_eq_false_iff_not, ne_eq, Decidable.not_not, true_and, and_true, Nat.reduceAdd, Nat.reduceLeDiff, Nat.reduceEqDiff, Nat.le_refl, not_true_eq_false, not_false_eq_true, reduceIte, eq_self, Int.reduceNeg, Int.reduceEq, Int.reduceLT, Int.reduceLE, Nat.zero_le, Nat.one_ne_zero, ev_web, ev_web_arr, ev_fout, ev_fout_arr, ev_fin, ev_fin_arr, Int.toNat_natCast, t1, e1, e2, e3, e4]
  repeat refine And.intro (by omega) ?_
  rw [hQ101]
  clear hQ101 Q101
  refine kThen_N.mpr ?_
  refine wpS_gen (fun Q1 hQ1 => ?_)
  by_cases q : k < So (v + 1) - So v
  · have q2 : (k : Int) < (So (v + 1) : Int) - So v := by omega
    have t2 : ((So v : Int) + k).toNat = So v + k := by omega
    have e5 := h1.2.2.1 (So v + k) (by omega)
    simp only [wpS_skip, wpS_break, wpS_cont, wpS_retV, wpS_throw, wpS_seq, wpS_if, wpS_trunc, yS_let, yS_inc, kgK_i, kgK_r, kok_nil, kok_i0, kok_is, kok_r0, kok_rs, kok_n0, kok_ns, xS_put, xS_putOp, xS_ast0, xS_ast1, xS_astOp, wpS_E, wpS_call, wpS_callS, wpS_ret, kThen_N, kThen_B, kThen_C, kThen_R, kThen_T, kNext_N, kNext_C, kNext_B, kNext_R, wpE_K, wpE_KL, xE_I, xE_R, wpE_J, xE_bin, wpE_ladd, wpE_i2l, xE_get, xE_ald0, xE_ald1, wpE_if, xE_max, xE_min, wpE_len, wpA_nil, wpA_snoc, xE_call, xE_callS, xC_C, xC_L, xC_Z, wpC_and, wpC_or, wpC_not, wpC_if, kcmp_0, kcmp_1, kcmp_2, kcmp_3, kcmp_4, kcmp_5, rR_inj, kgO_some, kgO_add, kgO_sub, kgO_mul, kgO_div, kgO_rem, kgO_and, kvI_inl, kvJ_inl, kgI_0, kgI_s, kgR_0, kgR_s, kst_nil, kst_0, kst_s, kNLl_nil, kNLl_i, kNLl_r, kNLl_n, ktag_i, ktag_r, List.length_cons, List.length_nil, List.take_succ_cons, List.take_zero, List.take_nil, List.nil_append, List.cons_append, decide_eq_true_eq, Bool.not_eq_true, Bool.not_eq_true', decide_eq_false_iff_not, ne_eq, Decidable.not_not, true_and, and_true, Nat.reduceAdd, Nat.reduceLeDiff, Nat.reduceEqDiff, Nat.le_refl, not_true_eq_false, not_false_eq_true, reduceIte, eq_self, Int.reduceNeg, Int.reduceEq, Int.reduceLT, Int.reduceLE, Nat.zero_le, Nat.one_ne_zero, ev_web, ev_web_arr, ev_fout, ev_fout_arr, ev_fin, ev_fin_arr, Int.toNat_natCast, t1, t2, e1, e2, e3, e4, e5, q, q2, decide_true, if_true]
    repeat refine And.intro (by omega) ?_
    rw [hQ1]
    exact ⟨_, rfl, rfl, rfl, by simp [atK, q]⟩
  · have q2 : ¬ (k : Int) < (So (v + 1) : Int) - So v := by omega
    have t2 : ((Si v : Int) + k - ((So (v + 1) : Int) - So v)).toNat = Si v + k - (So (v + 1) - So v) := by omega
    have e5 := h3.2.2.1 (Si v + k - (So (v + 1) - So v)) (by omega)
    simp only [wpS_skip, wpS_break, wpS_cont, wpS_retV, wpS_throw, wpS_seq, wpS_if, wpS_trunc, yS_let, yS_inc, kgK_i, kgK_r, kok_nil, kok_i0, kok_is, kok_r0, kok_rs, kok_n0, kok_ns, xS_put, xS_putOp, xS_ast0, xS_ast1, xS_astOp, wpS_E, wpS_call, wpS_callS, wpS_ret, kThen_N, kThen_B, kThen_C, kThen_R, kThen_T, kNext_N, kNext_C, kNext_B, kNext_R, wpE_K, wpE_KL, xE_I, xE_R, wpE_J, xE_bin, wpE_ladd, wpE_i2l, xE_get, xE_ald0, xE_ald1, wpE_if, xE_max, xE_min, wpE_len, wpA_nil, wpA_snoc, xE_call, xE_callS, xC_C, xC_L, xC_Z, wpC_and, wpC_or, wpC_not, wpC_if, kcmp_0, kcmp_1, kcmp_2, kcmp_3, kcmp_4, kcmp_5, rR_inj, kgO_some, kgO_add, kgO_sub, kgO_mul, kgO_div, kgO_rem, kgO_and, kvI_inl, kvJ_inl, kgI_0, kgI_s, kgR_0, kgR_s, kst_nil, kst_0, kst_s, kNLl_nil, kNLl_i, kNLl_r, kNLl_n, ktag_i, ktag_r, List.length_cons, List.length_nil, List.take_succ_cons, List.take_zero, List.take_nil, List.nil_append, List.cons_append, decide_eq_true_eq, Bool.not_eq_true, Bool.not_eq_true', decide_eq_false_iff_not, ne_eq, Decidable.not_not, true_and, and_true, Nat.reduceAdd, Nat.reduceLeDiff, Nat.reduceEqDiff, Nat.le_refl, not_true_eq_false, not_false_eq_true, reduceIte, eq_self, Int.reduceNeg, Int.reduceEq, Int.reduceLT, Int.reduceLE, Nat.zero_le, Nat.one_ne_zero, ev_web, ev_web_arr, ev_fout, ev_fout_arr, ev_fin, ev_fin_arr, Int.toNat_natCast, t1, t2, e1, e2, e3, e4, e5, q, q2, decide_false, Bool.false_eq_true, if_false]
    repeat refine And.intro (by omega) ?_
    rw [hQ1]
    exact ⟨_, rfl, rfl, rfl, by simp [atK, q]⟩
end W
