/-! WHERE A BODY THROWS; a call of the law on both sides (printed by gen4.py) -/
def sT (P : Nat → Prop) (s : kSx) : Prop := ∀ (L : kL) (σ : kS) (pc : Nat) (L' : kL) (σ' : kS), s L σ = some (rT pc, L', σ') → P pc
section ST
variable {P : Nat → Prop}
theorem sT_skip : sT P sSkip := by
  intro L σ pc L' σ' h
  simp [sSkip, rN, rT] at h
theorem sT_throw {pc : Nat} (h : P pc) : sT P (sThrow pc) := by
  intro L σ pc2 L' σ' h2
  simp only [sThrow, rT, Option.some.injEq, Prod.mk.injEq, Sum.inr.injEq] at h2
  rw [← h2.1]
  exact h
theorem sT_seq {a b : kSx} (h1 : sT P a) (h2 : sT P b) : sT P (sSeq a b) := by
  intro L σ pc L' σ' h
  simp only [sSeq, Option.bind_eq_some_iff] at h
  obtain ⟨⟨r, L1, σ1⟩, q1, q2⟩ := h
  rcases r with u | r
  · exact h2 _ _ _ _ _ q2
  · cases q2
    exact h1 _ _ _ _ _ q1
theorem sT_if {c : kCx} {a b : kSx} (h1 : sT P a) (h2 : sT P b) : sT P (sIf c a b) := by
  intro L σ pc L' σ' h
  simp only [sIf, Option.bind_eq_some_iff] at h
  obtain ⟨⟨t, σ1⟩, -, q2⟩ := h
  cases t
  · exact h2 _ _ _ _ _ q2
  · exact h1 _ _ _ _ _ q2
theorem sT_trunc {k : Nat} {s : kSx} (h1 : sT P s) : sT P (sTrunc k s) := by
  intro L σ pc L' σ' h
  simp only [sTrunc, Option.map_eq_some_iff] at h
  obtain ⟨⟨r, L1, σ1⟩, q1, q2⟩ := h
  cases q2
  exact h1 _ _ _ _ _ q1
theorem sT_ite {q : Prop} [Decidable q] {a b : kSx} (h1 : sT P a) (h2 : sT P b) : sT P (if q then a else b) := by
  by_cases h : q
  · rw [if_pos h]; exact h1
  · rw [if_neg h]; exact h2
theorem sT_switch {e : kEx} {f : Int → kSx} (h1 : ∀ z, sT P (f z)) : sT P (sSwitch e f) := by
  intro L σ pc L' σ' h
  simp only [sSwitch, Option.bind_eq_some_iff, Option.map_eq_some_iff] at h
  obtain ⟨⟨v, σ1⟩, -, z, -, ⟨r, L1, σ2⟩, q1, q2⟩ := h
  rcases r with u | ⟨_ | _⟩ | v | t
  · cases q2
  · cases q2
  · cases q2
  · cases q2
  · cases q2
    exact h1 z _ _ _ _ _ q1
theorem sT_e {e : kEx} : sT P (sE e) := by
  intro L σ pc L' σ' h
  simp only [sE, Option.bind_eq_some_iff] at h
  obtain ⟨⟨v, σ1⟩, -, q2⟩ := h
  rcases v with z | o | z
  · cases q2
  · cases q2
  · cases q2
theorem sT_ret {k : Nat} {e : kEx} : sT P (sRet k e) := by
  intro L σ pc L' σ' h
  simp only [sRet, Option.bind_eq_some_iff] at h
  obtain ⟨⟨v, σ1⟩, -, q2⟩ := h
  split at q2
  · cases q2
  · cases q2
theorem sT_let {t i : Nat} {e : kEx} : sT P (sLet t i e) := by
  intro L σ pc L' σ' h
  simp only [sLet, Option.bind_eq_some_iff] at h
  obtain ⟨⟨v, σ1⟩, -, q2⟩ := h
  split at q2
  · simp only [Option.map_eq_some_iff] at q2
    obtain ⟨L2, -, q⟩ := q2
    cases q
  · cases q2
theorem sT_call {ci : Nat} {F : kFn} {es : kAx} : sT P (sCall ci F es) := by
  intro L σ pc L' σ' h
  simp only [sCall, Option.bind_eq_some_iff] at h
  obtain ⟨⟨vs, σ1⟩, -, q2⟩ := h
  split at q2
  · simp only [Option.bind_eq_some_iff] at q2
    obtain ⟨⟨r, σ2⟩, -, q⟩ := q2
    cases r <;> cases q
  · cases q2
theorem sT_put {ci k : Nat} {a e : kEx} : sT P (sPut ci k a e) := by
  intro L σ pc L' σ' h
  simp only [sPut, Option.bind_eq_some_iff, Option.map_eq_some_iff] at h
  obtain ⟨_, -, _, -, _, -, q⟩ := h
  cases q
theorem sT_for {k : Nat} {c : kCx} {body upd : kSx} (h1 : sT P body) : sT P (sFor k c body upd) := by
  intro L σ pc L' σ' h
  unfold sFor at h
  obtain ⟨m, hm⟩ := kLoop_iff.mp h
  clear h
  generalize (L, σ) = q at hm
  induction m generalizing q with
  | zero => cases hm
  | succ m ih =>
    simp only [kIter, Option.bind_eq_some_iff] at hm
    obtain ⟨x, hx, hq⟩ := hm
    cases x with
    | inl q' => exact ih q' hq
    | inr y =>
      cases hq
      simp only [kBody, Option.bind_eq_some_iff] at hx
      obtain ⟨⟨t, σ1⟩, -, hx⟩ := hx
      cases t
      · cases hx
      · simp only [if_true, Option.bind_eq_some_iff] at hx
        obtain ⟨⟨r, L1, σ2⟩, q1, hx⟩ := hx
        rcases r with u | ⟨_ | _⟩ | v | t
        · simp only [Option.bind_eq_some_iff] at hx
          obtain ⟨⟨ru, L2, σ3⟩, -, hx⟩ := hx
          rcases ru with u2 | u2 <;> cases hx
        · cases hx
        · simp only [Option.bind_eq_some_iff] at hx
          obtain ⟨⟨ru, L2, σ3⟩, -, hx⟩ := hx
          rcases ru with u2 | u2 <;> cases hx
        · cases hx
        · cases hx
          exact h1 _ _ _ _ _ q1
end ST
theorem kF_chk {n : Nat} {chk : Option kV → Bool} {body : kSx} {av : List kV} {σ σ' : kS} {r : Option kV} (h : kF n chk body av σ = some (r, σ')) : chk r = true := by
  unfold kF at h
  split at h
  · simp only [Option.bind_eq_some_iff] at h
    obtain ⟨⟨r1, L1, σ1⟩, -, h2⟩ := h
    dsimp only at h2
    split at h2
    · rename_i v
      split at h2
      · cases h2
        assumption
      · cases h2
    · cases h2
  · cases h
theorem kI_int {r : Option kV} (h : kI r = true) : ∃ z, r = some (.inl z) := by
  rcases r with _ | z | o | z
  · cases h
  · exact ⟨z, rfl⟩
  · cases h
  · cases h
theorem kZ_int {r : Option kV} (h : kZ r = true) : ∃ z, r = some (.inl z) := by
  rcases r with _ | z | o | z
  · cases h
  · exact ⟨z, rfl⟩
  · cases h
  · cases h
theorem kup_self {σ : kS} {o k : Nat} : kup σ o k (σ o k) = σ := by
  funext a b
  unfold kup
  by_cases h : a = o ∧ b = k
  · rw [if_pos h, h.1, h.2]
  · rw [if_neg h]
theorem jW {body bM : kSx} {chk : Option kV → Bool} {site : Nat → Option (String × Int)} {n : Nat} {vs vm : List kV} {A B : Int} {thr : Nat → Int} {σ : kS} (hchk : ∀ {r : Option kV}, chk r = true → ∃ z, r = some (.inl z)) (hT : sT (fun pc => ∃ E k, site pc = some (E, k) ∧ thr pc = k ∧ 0 < k) body) (hAB : A ≤ B)
    (h : wpS body (vs.map some) σ (fun r _ s => refC (kF n chk bM) vm A thr r s)) :
    ∃ (k : Int) (σ1 : kS), fW body chk site vs σ = some (k, σ1) ∧ ∃ (v : Int) (σ2 : kS), kF n chk bM vm σ1 = some (some (.inl v), σ2) ∧ JV σ2 B ∧ σ2 14 22 = k ∧ (k = 0 → σ2 110 0 = v) ∧ chk (some (.inl v)) = true := by
  obtain ⟨r, L', σ', hb, hr⟩ := h
  obtain ⟨r', s', hF, hJ, hy, ho⟩ := hr 0
  rcases ho with ⟨z, rfl, rfl, h0⟩ | ⟨pc, rfl, h1, h2⟩
  · have hc := kF_chk hF
    obtain ⟨w, hw⟩ := hchk hc
    cases hw
    obtain ⟨r2, s2, hF2, hJ2, hy2, ho2⟩ := hr w
    rcases ho2 with ⟨z2, e1, rfl, h02⟩ | ⟨pc, e1, -⟩
    · cases e1
      refine ⟨0, kup σ' 110 0 w, ?_, w, s2, hF2, hJ2.mono hAB, h02, fun _ => hy2, hc⟩
      unfold fW
      rw [hb]
      show (if chk (some (.inl w)) = true then some ((0 : Int), kup σ' 110 0 w) else none) = _
      rw [if_pos hc]
    · cases e1
  · obtain ⟨E, k, hs, hk, hk0⟩ := hT _ _ _ _ _ hb
    obtain ⟨r2, s2, hF2, hJ2, hy2, ho2⟩ := hr (σ' 110 0)
    rw [kup_self] at hF2
    rcases ho2 with ⟨z2, e1, -⟩ | ⟨pc2, e1, h12, h22⟩
    · cases e1
    · cases e1
      have hc := kF_chk hF2
      obtain ⟨w, rfl⟩ := hchk hc
      refine ⟨k, σ', ?_, w, s2, hF2, hJ2.mono hAB, h12.trans hk, fun e => by omega, hc⟩
      unfold fW
      rw [hb]
      show (site pc).map _ = _
      rw [hs]
      rfl
theorem jF {body bM : kSx} {chk : Option kV → Bool} {n n2 : Nat} {vs vm : List kV} {A B : Int} {thr : Nat → Int} {σ : kS} (hl : vs.length = n2) (hnl : vs.all kNL = true) (hT : sT (fun _ => False) body) (hAB : A ≤ B)
    (h : wpS body (vs.map some) σ (fun r _ s => refC (kF n chk bM) vm A thr r s)) : ∃ (v : kV) (σ1 σ2 : kS), kF n2 chk body vs σ = some (some v, σ1) ∧ chk (some v) = true ∧ kF n chk bM vm σ1 = some (some v, σ2) ∧ JV σ2 B := by
  obtain ⟨r, L', σ', hb, hr⟩ := h
  obtain ⟨r2, s2, hF2, hJ2, hy2, ho2⟩ := hr (σ' 110 0)
  rw [kup_self] at hF2
  rcases ho2 with ⟨z, rfl, rfl, h0⟩ | ⟨pc, rfl, h1, h2⟩
  · have hc := kF_chk hF2
    refine ⟨z, σ', s2, ?_, hc, hF2, hJ2.mono hAB⟩
    unfold kF
    rw [if_pos ⟨hl, hnl⟩, hb]
    show (if chk (some z) = true then some (some z, σ') else none) = _
    rw [if_pos hc]
  · exact (hT _ _ _ _ _ hb).elim
theorem st_KP_node : sT (fun pc => ∃ E k, site_node pc = some (E, k) ∧ (fun _ => 1) pc = k ∧ 0 < k) s_KP_node := by
  unfold s_KP_node
  exact (sT_seq (sT_if (sT_throw ⟨_, _, rfl, rfl, by decide⟩) sT_skip) (sT_seq sT_e sT_ret))
theorem st_l_KP_chain_1 {P : Nat → Prop} : sT P l_KP_chain_1 := by
  unfold l_KP_chain_1
  exact (sT_for sT_e)
theorem st_l_KP_chain_2 {P : Nat → Prop} : sT P l_KP_chain_2 := by
  unfold l_KP_chain_2
  exact (sT_for sT_e)
theorem st_KP_chain : sT (fun pc => ∃ E k, site_chain pc = some (E, k) ∧ (thr2 12 50) pc = k ∧ 0 < k) s_KP_chain := by
  unfold s_KP_chain
  exact (sT_seq (sT_if (sT_throw ⟨_, _, rfl, rfl, by decide⟩) sT_skip) (sT_seq (sT_if (sT_throw ⟨_, _, rfl, rfl, by decide⟩) sT_skip) (sT_seq sT_e (sT_seq sT_let (sT_seq (sT_trunc (sT_seq sT_let st_l_KP_chain_1)) (sT_seq (sT_trunc (sT_seq sT_let st_l_KP_chain_2)) sT_ret))))))
theorem st_KP_put : sT (fun pc => ∃ E k, site_put pc = some (E, k) ∧ (thr2 22 43) pc = k ∧ 0 < k) s_KP_put := by
  unfold s_KP_put
  exact (sT_seq (sT_if (sT_throw ⟨_, _, rfl, rfl, by decide⟩) sT_skip) (sT_seq (sT_if (sT_throw ⟨_, _, rfl, rfl, by decide⟩) sT_skip) (sT_seq sT_let (sT_seq (sT_if sT_ret sT_skip) (sT_seq sT_e sT_ret)))))
theorem st_KP_take : sT (fun pc => ∃ E k, site_take pc = some (E, k) ∧ (fun _ => 1) pc = k ∧ 0 < k) s_KP_take := by
  unfold s_KP_take
  exact (sT_seq (sT_if (sT_throw ⟨_, _, rfl, rfl, by decide⟩) sT_skip) (sT_seq sT_e (sT_seq sT_call (sT_seq sT_call (sT_seq sT_call (sT_seq sT_put sT_ret))))))
theorem st_KP_weigh : sT (fun pc => ∃ E k, site_weigh pc = some (E, k) ∧ (fun _ => 1) pc = k ∧ 0 < k) s_KP_weigh := by
  unfold s_KP_weigh
  exact (sT_seq (sT_if (sT_throw ⟨_, _, rfl, rfl, by decide⟩) sT_skip) sT_ret)
theorem st_KP_joined : sT (fun pc => ∃ E k, site_joined pc = some (E, k) ∧ (fun _ => 1) pc = k ∧ 0 < k) s_KP_joined := by
  unfold s_KP_joined
  exact (sT_seq (sT_if (sT_throw ⟨_, _, rfl, rfl, by decide⟩) sT_skip) sT_ret)
theorem st_KP_two : sT (fun pc => ∃ E k, site_two pc = some (E, k) ∧ (fun _ => 1) pc = k ∧ 0 < k) s_KP_two := by
  unfold s_KP_two
  exact (sT_seq (sT_if (sT_throw ⟨_, _, rfl, rfl, by decide⟩) sT_skip) sT_ret)
theorem st_sw_KP_of (z : Int) : sT (fun pc => ∃ E k, site_of pc = some (E, k) ∧ (thr2 11 172) pc = k ∧ 0 < k) (sw_KP_of z) := by
  unfold sw_KP_of
  exact (sT_ite sT_ret
    (sT_ite sT_ret
    (sT_ite sT_ret
    (sT_ite sT_ret
    (sT_ite sT_ret
    (sT_ite sT_ret
    (sT_ite sT_ret
    (sT_ite sT_ret
    (sT_ite sT_ret
    (sT_throw ⟨_, _, rfl, rfl, by decide⟩))))))))))
theorem st_KP_of : sT (fun pc => ∃ E k, site_of pc = some (E, k) ∧ (thr2 11 172) pc = k ∧ 0 < k) s_KP_of := by
  unfold s_KP_of
  exact (sT_seq (sT_if (sT_throw ⟨_, _, rfl, rfl, by decide⟩) sT_skip) (sT_switch (st_sw_KP_of)))
theorem st_sw_KP_arc (z : Int) : sT (fun pc => ∃ E k, site_arc pc = some (E, k) ∧ (thr2 11 164) pc = k ∧ 0 < k) (sw_KP_arc z) := by
  unfold sw_KP_arc
  exact (sT_ite sT_ret
    (sT_ite sT_ret
    (sT_ite sT_ret
    (sT_ite sT_ret
    (sT_ite sT_ret
    (sT_ite sT_ret
    (sT_ite sT_ret
    (sT_throw ⟨_, _, rfl, rfl, by decide⟩))))))))
theorem st_KP_arc : sT (fun pc => ∃ E k, site_arc pc = some (E, k) ∧ (thr2 11 164) pc = k ∧ 0 < k) s_KP_arc := by
  unfold s_KP_arc
  exact (sT_seq (sT_if (sT_throw ⟨_, _, rfl, rfl, by decide⟩) sT_skip) (sT_switch (st_sw_KP_arc)))
theorem st_KP_order : sT (fun pc => ∃ E k, site_order pc = some (E, k) ∧ (fun _ => 1) pc = k ∧ 0 < k) s_KP_order := by
  unfold s_KP_order
  exact (sT_seq (sT_if (sT_throw ⟨_, _, rfl, rfl, by decide⟩) sT_skip) sT_ret)
theorem st_KP_odd : sT (fun pc => ∃ E k, site_odd pc = some (E, k) ∧ (fun _ => 1) pc = k ∧ 0 < k) s_KP_odd := by
  unfold s_KP_odd
  exact (sT_seq (sT_if (sT_throw ⟨_, _, rfl, rfl, by decide⟩) sT_skip) sT_ret)
theorem st_KP_ring : sT (fun pc => ∃ E k, site_ring pc = some (E, k) ∧ (fun _ => 1) pc = k ∧ 0 < k) s_KP_ring := by
  unfold s_KP_ring
  exact (sT_seq (sT_if (sT_throw ⟨_, _, rfl, rfl, by decide⟩) sT_skip) sT_ret)
theorem st_KP_planPut : sT (fun pc => ∃ E k, site_planPut pc = some (E, k) ∧ (thr2 22 42) pc = k ∧ 0 < k) s_KP_planPut := by
  unfold s_KP_planPut
  exact (sT_seq (sT_if (sT_throw ⟨_, _, rfl, rfl, by decide⟩) sT_skip) (sT_seq (sT_if (sT_throw ⟨_, _, rfl, rfl, by decide⟩) sT_skip) sT_ret))
theorem st_KP_planTake : sT (fun pc => ∃ E k, site_planTake pc = some (E, k) ∧ (thr3 24 45) pc = k ∧ 0 < k) s_KP_planTake := by
  unfold s_KP_planTake
  exact (sT_seq (sT_if (sT_throw ⟨_, _, rfl, rfl, by decide⟩) sT_skip) (sT_seq (sT_if (sT_throw ⟨_, _, rfl, rfl, by decide⟩) sT_skip) (sT_seq (sT_if (sT_throw ⟨_, _, rfl, rfl, by decide⟩) sT_skip) sT_ret)))
theorem st_sw_KP_later (z : Int) : sT (fun pc => ∃ E k, site_later pc = some (E, k) ∧ (thr2 15 101) pc = k ∧ 0 < k) (sw_KP_later z) := by
  unfold sw_KP_later
  exact (sT_ite sT_ret
    (sT_ite sT_ret
    (sT_ite sT_ret
    (sT_ite sT_ret
    (sT_throw ⟨_, _, rfl, rfl, by decide⟩)))))
theorem st_KP_later : sT (fun pc => ∃ E k, site_later pc = some (E, k) ∧ (thr2 15 101) pc = k ∧ 0 < k) s_KP_later := by
  unfold s_KP_later
  exact (sT_seq (sT_if (sT_throw ⟨_, _, rfl, rfl, by decide⟩) sT_skip) (sT_switch (st_sw_KP_later)))
theorem st_KP_laterJoined : sT (fun pc => ∃ E k, site_laterJoined pc = some (E, k) ∧ (fun _ => 1) pc = k ∧ 0 < k) s_KP_laterJoined := by
  unfold s_KP_laterJoined
  exact (sT_seq (sT_if (sT_throw ⟨_, _, rfl, rfl, by decide⟩) sT_skip) sT_ret)
theorem st_sw_KP_told (z : Int) : sT (fun pc => ∃ E k, site_told pc = some (E, k) ∧ (fun _ => 1) pc = k ∧ 0 < k) (sw_KP_told z) := by
  unfold sw_KP_told
  exact (sT_ite sT_ret
    (sT_ite sT_ret
    (sT_ite sT_ret
    (sT_ite sT_ret
    (sT_ite sT_ret
    (sT_ite sT_ret
    (sT_ite sT_ret
    (sT_ite sT_ret
    (sT_ite sT_ret
    (sT_ite sT_ret
    (sT_ite sT_ret
    (sT_ite sT_ret
    (sT_ite sT_ret
    (sT_throw ⟨_, _, rfl, rfl, by decide⟩))))))))))))))
theorem st_KP_told : sT (fun pc => ∃ E k, site_told pc = some (E, k) ∧ (fun _ => 1) pc = k ∧ 0 < k) s_KP_told := by
  unfold s_KP_told
  exact (sT_switch (st_sw_KP_told))
theorem st_KP_triangles : sT (fun _ => False) s_KP_triangles := by
  unfold s_KP_triangles
  exact sT_ret
theorem st_KP_sound : sT (fun _ => False) s_KP_sound := by
  unfold s_KP_sound
  exact sT_ret
theorem st_KP_drop : sT (fun _ => False) s_KP_drop := by
  unfold s_KP_drop
  exact sT_ret
section JC
variable {σ : kS} {A : Int}
theorem jj_node {x0 : Int} (hr0 : kR32 x0) (hA : A + 600 < 2147483647) (h : JV σ A) : ∃ (k : Int) (σ1 : kS), fW s_KP_node kI site_node (.inr (.inl 0) :: [x0].map Sum.inl) σ = some (k, σ1) ∧ ∃ (v : Int) (σ2 : kS), F_Md_node [.inr (.inl 14), .inl x0] σ1 = some (some (.inl v), σ2) ∧ JV σ2 (A + 600) ∧ σ2 14 22 = k ∧ (k = 0 → σ2 110 0 = v) ∧ kI (some (.inl v)) = true :=
  jW (n := 2) (bM := s_Md_node) kI_int st_KP_node (by omega) (jNode (by omega) h)
theorem jj_chain {x0 : Int} (hr0 : kR32 x0) (hA : A + 600 < 2147483647) (h : JV σ A) : ∃ (k : Int) (σ1 : kS), fW s_KP_chain kI site_chain (.inr (.inl 0) :: [x0].map Sum.inl) σ = some (k, σ1) ∧ ∃ (v : Int) (σ2 : kS), F_Md_chain [.inr (.inl 14), .inl x0] σ1 = some (some (.inl v), σ2) ∧ JV σ2 (A + 600) ∧ σ2 14 22 = k ∧ (k = 0 → σ2 110 0 = v) ∧ kI (some (.inl v)) = true :=
  jW (n := 2) (bM := s_Md_chain) kI_int st_KP_chain (by omega) (jChain (by omega) h)
theorem jj_put {x0 x1 : Int} (hr0 : kR32 x0) (hr1 : kR32 x1) (hA : A + 600 < 2147483647) (h : JV σ A) : ∃ (k : Int) (σ1 : kS), fW s_KP_put kI site_put (.inr (.inl 0) :: [x0, x1].map Sum.inl) σ = some (k, σ1) ∧ ∃ (v : Int) (σ2 : kS), F_Md_put [.inr (.inl 14), .inl x0, .inl x1] σ1 = some (some (.inl v), σ2) ∧ JV σ2 (A + 600) ∧ σ2 14 22 = k ∧ (k = 0 → σ2 110 0 = v) ∧ kI (some (.inl v)) = true :=
  jW (n := 3) (bM := s_Md_put) kI_int st_KP_put (by omega) (jPut (by omega) h)
theorem jj_take {x0 : Int} (hr0 : kR32 x0) (hA : A + 600 < 2147483647) (h : JV σ A) : ∃ (k : Int) (σ1 : kS), fW s_KP_take kI site_take (.inr (.inl 0) :: [x0].map Sum.inl) σ = some (k, σ1) ∧ ∃ (v : Int) (σ2 : kS), F_Md_take [.inr (.inl 14), .inl x0] σ1 = some (some (.inl v), σ2) ∧ JV σ2 (A + 600) ∧ σ2 14 22 = k ∧ (k = 0 → σ2 110 0 = v) ∧ kI (some (.inl v)) = true :=
  jW (n := 2) (bM := s_Md_take) kI_int st_KP_take (by omega) (jTake (by omega) h)
theorem jj_weigh {x0 x1 : Int} (hr0 : kR32 x0) (hr1 : kR32 x1) (h : JV σ A) : ∃ (k : Int) (σ1 : kS), fW s_KP_weigh kI site_weigh (.inr (.inl 0) :: [x0, x1].map Sum.inl) σ = some (k, σ1) ∧ ∃ (v : Int) (σ2 : kS), F_Md_weigh [.inr (.inl 14), .inl x0, .inl x1] σ1 = some (some (.inl v), σ2) ∧ JV σ2 (A + 600) ∧ σ2 14 22 = k ∧ (k = 0 → σ2 110 0 = v) ∧ kI (some (.inl v)) = true :=
  jW (n := 3) (bM := s_Md_weigh) kI_int st_KP_weigh (by omega) (jWeigh h)
theorem jj_joined {x0 x1 : Int} (hr0 : kR32 x0) (hr1 : kR32 x1) (h : JV σ A) : ∃ (k : Int) (σ1 : kS), fW s_KP_joined kZ site_joined (.inr (.inl 0) :: [x0, x1].map Sum.inl) σ = some (k, σ1) ∧ ∃ (v : Int) (σ2 : kS), F_Md_joined [.inr (.inl 14), .inl x0, .inl x1] σ1 = some (some (.inl v), σ2) ∧ JV σ2 (A + 600) ∧ σ2 14 22 = k ∧ (k = 0 → σ2 110 0 = v) ∧ kZ (some (.inl v)) = true :=
  jW (n := 3) (bM := s_Md_joined) kZ_int st_KP_joined (by omega) (jJoined h)
theorem jj_two {x0 x1 : Int} (hr0 : kR32 x0) (hr1 : kR32 x1) (h : JV σ A) : ∃ (k : Int) (σ1 : kS), fW s_KP_two kZ site_two (.inr (.inl 0) :: [x0, x1].map Sum.inl) σ = some (k, σ1) ∧ ∃ (v : Int) (σ2 : kS), F_Md_two [.inr (.inl 14), .inl x0, .inl x1] σ1 = some (some (.inl v), σ2) ∧ JV σ2 (A + 600) ∧ σ2 14 22 = k ∧ (k = 0 → σ2 110 0 = v) ∧ kZ (some (.inl v)) = true :=
  jW (n := 3) (bM := s_Md_two) kZ_int st_KP_two (by omega) (jTwo h)
theorem jj_of {x0 x1 : Int} (hr0 : kR32 x0) (hr1 : kR32 x1) (h : JV σ A) : ∃ (k : Int) (σ1 : kS), fW s_KP_of kI site_of (.inr (.inl 0) :: [x0, x1].map Sum.inl) σ = some (k, σ1) ∧ ∃ (v : Int) (σ2 : kS), F_Md_of [.inr (.inl 14), .inl x0, .inl x1] σ1 = some (some (.inl v), σ2) ∧ JV σ2 (A + 600) ∧ σ2 14 22 = k ∧ (k = 0 → σ2 110 0 = v) ∧ kI (some (.inl v)) = true :=
  jW (n := 3) (bM := s_Md_of) kI_int st_KP_of (by omega) (jOf h)
theorem jj_arc {x0 x1 : Int} (hr0 : kR32 x0) (hr1 : kR32 x1) (h : JV σ A) : ∃ (k : Int) (σ1 : kS), fW s_KP_arc kI site_arc (.inr (.inl 0) :: [x0, x1].map Sum.inl) σ = some (k, σ1) ∧ ∃ (v : Int) (σ2 : kS), F_Md_arc [.inr (.inl 14), .inl x0, .inl x1] σ1 = some (some (.inl v), σ2) ∧ JV σ2 (A + 600) ∧ σ2 14 22 = k ∧ (k = 0 → σ2 110 0 = v) ∧ kI (some (.inl v)) = true :=
  jW (n := 3) (bM := s_Md_arc) kI_int st_KP_arc (by omega) (jArc h)
theorem jj_order {x0 : Int} (hr0 : kR32 x0) (h : JV σ A) : ∃ (k : Int) (σ1 : kS), fW s_KP_order kI site_order (.inr (.inl 0) :: [x0].map Sum.inl) σ = some (k, σ1) ∧ ∃ (v : Int) (σ2 : kS), F_Md_order [.inr (.inl 14), .inl x0] σ1 = some (some (.inl v), σ2) ∧ JV σ2 (A + 600) ∧ σ2 14 22 = k ∧ (k = 0 → σ2 110 0 = v) ∧ kI (some (.inl v)) = true :=
  jW (n := 2) (bM := s_Md_order) kI_int st_KP_order (by omega) (jOrder h)
theorem jj_odd {x0 x1 : Int} (hr0 : kR32 x0) (hr1 : kR32 x1) (h : JV σ A) : ∃ (k : Int) (σ1 : kS), fW s_KP_odd kI site_odd (.inr (.inl 0) :: [x0, x1].map Sum.inl) σ = some (k, σ1) ∧ ∃ (v : Int) (σ2 : kS), F_Md_odd [.inr (.inl 14), .inl x0, .inl x1] σ1 = some (some (.inl v), σ2) ∧ JV σ2 (A + 600) ∧ σ2 14 22 = k ∧ (k = 0 → σ2 110 0 = v) ∧ kI (some (.inl v)) = true :=
  jW (n := 3) (bM := s_Md_odd) kI_int st_KP_odd (by omega) (jOdd (hr1).2 h)
theorem jj_ring {x0 : Int} (hr0 : kR32 x0) (h : JV σ A) : ∃ (k : Int) (σ1 : kS), fW s_KP_ring kI site_ring (.inr (.inl 0) :: [x0].map Sum.inl) σ = some (k, σ1) ∧ ∃ (v : Int) (σ2 : kS), F_Md_ring [.inr (.inl 14), .inl x0] σ1 = some (some (.inl v), σ2) ∧ JV σ2 (A + 600) ∧ σ2 14 22 = k ∧ (k = 0 → σ2 110 0 = v) ∧ kI (some (.inl v)) = true :=
  jW (n := 2) (bM := s_Md_ring) kI_int st_KP_ring (by omega) (jRing h)
theorem jj_planPut {x0 x1 : Int} (hr0 : kR32 x0) (hr1 : kR32 x1) (h : JV σ A) : ∃ (k : Int) (σ1 : kS), fW s_KP_planPut kI site_planPut (.inr (.inl 0) :: [x0, x1].map Sum.inl) σ = some (k, σ1) ∧ ∃ (v : Int) (σ2 : kS), F_Md_planPut [.inr (.inl 14), .inl x0, .inl x1] σ1 = some (some (.inl v), σ2) ∧ JV σ2 (A + 600) ∧ σ2 14 22 = k ∧ (k = 0 → σ2 110 0 = v) ∧ kI (some (.inl v)) = true :=
  jW (n := 3) (bM := s_Md_planPut) kI_int st_KP_planPut (by omega) (jPlanPut h)
theorem jj_planTake {x0 : Int} (hr0 : kR32 x0) (h : JV σ A) : ∃ (k : Int) (σ1 : kS), fW s_KP_planTake kI site_planTake (.inr (.inl 0) :: [x0].map Sum.inl) σ = some (k, σ1) ∧ ∃ (v : Int) (σ2 : kS), F_Md_planTake [.inr (.inl 14), .inl x0] σ1 = some (some (.inl v), σ2) ∧ JV σ2 (A + 600) ∧ σ2 14 22 = k ∧ (k = 0 → σ2 110 0 = v) ∧ kI (some (.inl v)) = true :=
  jW (n := 2) (bM := s_Md_planTake) kI_int st_KP_planTake (by omega) (jPlanTake hr0 h)
theorem jj_later {x0 x1 : Int} (hr0 : kR32 x0) (hr1 : kR32 x1) (h : JV σ A) : ∃ (k : Int) (σ1 : kS), fW s_KP_later kI site_later (.inr (.inl 0) :: [x0, x1].map Sum.inl) σ = some (k, σ1) ∧ ∃ (v : Int) (σ2 : kS), F_Md_later [.inr (.inl 14), .inl x0, .inl x1] σ1 = some (some (.inl v), σ2) ∧ JV σ2 (A + 600) ∧ σ2 14 22 = k ∧ (k = 0 → σ2 110 0 = v) ∧ kI (some (.inl v)) = true :=
  jW (n := 3) (bM := s_Md_later) kI_int st_KP_later (by omega) (jLater h)
theorem jj_laterJoined {x0 x1 x2 : Int} (hr0 : kR32 x0) (hr1 : kR32 x1) (hr2 : kR32 x2) (h : JV σ A) : ∃ (k : Int) (σ1 : kS), fW s_KP_laterJoined kZ site_laterJoined (.inr (.inl 0) :: [x0, x1, x2].map Sum.inl) σ = some (k, σ1) ∧ ∃ (v : Int) (σ2 : kS), F_Md_laterJoined [.inr (.inl 14), .inl x0, .inl x1, .inl x2] σ1 = some (some (.inl v), σ2) ∧ JV σ2 (A + 600) ∧ σ2 14 22 = k ∧ (k = 0 → σ2 110 0 = v) ∧ kZ (some (.inl v)) = true :=
  jW (n := 4) (bM := s_Md_laterJoined) kZ_int st_KP_laterJoined (by omega) (jLaterJoined h)
theorem jj_told {x0 : Int} (hr0 : kR32 x0) (h : JV σ A) : ∃ (k : Int) (σ1 : kS), fW s_KP_told kI site_told (.inr (.inl 0) :: [x0].map Sum.inl) σ = some (k, σ1) ∧ ∃ (v : Int) (σ2 : kS), F_Md_told [.inr (.inl 14), .inl x0] σ1 = some (some (.inl v), σ2) ∧ JV σ2 (A + 600) ∧ σ2 14 22 = k ∧ (k = 0 → σ2 110 0 = v) ∧ kI (some (.inl v)) = true :=
  jW (n := 2) (bM := s_Md_told) kI_int st_KP_told (by omega) (jTold h)
theorem jj_triangles (h : JV σ A) : ∃ (v : kV) (σ1 σ2 : kS), F_KP_triangles [.inr (.inl 0)] σ = some (some v, σ1) ∧ kJl (some v) = true ∧ F_Md_triangles [.inr (.inl 14)] σ1 = some (some v, σ2) ∧ JV σ2 (A + 600) :=
  jF (n := 1) (n2 := 1) (bM := s_Md_triangles) rfl rfl st_KP_triangles (by omega) (jTriangles h)
theorem jj_sound (h : JV σ A) : ∃ (v : kV) (σ1 σ2 : kS), F_KP_sound [.inr (.inl 0)] σ = some (some v, σ1) ∧ kZ (some v) = true ∧ F_Md_sound [.inr (.inl 14)] σ1 = some (some v, σ2) ∧ JV σ2 (A + 600) :=
  jF (n := 1) (n2 := 1) (bM := s_Md_sound) rfl rfl st_KP_sound (by omega) (jSound h)
theorem jj_drop (h : JV σ A) : ∃ (v : kV) (σ1 σ2 : kS), F_KP_drop [.inr (.inl 0)] σ = some (some v, σ1) ∧ kI (some v) = true ∧ F_Md_drop [.inr (.inl 14)] σ1 = some (some v, σ2) ∧ JV σ2 (A + 600) :=
  jF (n := 1) (n2 := 1) (bM := s_Md_drop) rfl rfl st_KP_drop (by omega) (jDrop h)
end JC
