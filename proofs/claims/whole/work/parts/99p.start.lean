/-! THE START: both sides behind their constructors -/
def nS0 (x : Int) : kS := fun o k => bif o.beq 0 && k.beq 0 then x else bif o.beq 14 && k.beq 0 then x else bif o.beq 62 then (if k < 5000 then -1 else 0) else bif o.beq 63 then (if k < 60 then -1 else 0) else 0
theorem nS0_vs {x : Int} (hx : x = 0 ∨ x = 1) : kVS (nS0 x) := by
  intro o k
  have h : kR32 (nS0 x o k) := by
    unfold nS0 kR32
    cases (o.beq 0 && k.beq 0)
    · cases (o.beq 14 && k.beq 0)
      · cases o.beq 62
        · cases o.beq 63
          · simp only [cond_false]; omega
          · simp only [cond_false, cond_true]; split <;> omega
        · simp only [cond_false, cond_true]; split <;> omega
      · simp only [cond_false, cond_true]; omega
    · simp only [cond_true]; omega
  exact ⟨k_6432 h, fun _ => h⟩
theorem JV_start (x : Int) : JV (nS0 x) 0 := by
  have hno : ∀ y, ¬ th 0 (fun _ => 0) y := fun y ⟨k, hk, _⟩ => absurd hk (by omega)
  have hHd0 : Hd 0 (th 0 (fun _ => 0)) (fun _ => 0) (fun _ => 0) (fun _ => 0) (fun _ => 0) := ⟨fun x hx => absurd hx.1 (hno x), fun x hx => absurd hx (hno x), fun i x hx => absurd hx (hno x)⟩
  have hp0 : prm 0 (fun _ => 0) (ivO 0 (fun _ => 0)) := ⟨fun p hp => absurd hp (by omega), fun p hp => absurd hp (by omega)⟩
  have h01 : ∀ y : Nat, (fun _ : Nat => (0 : Int)) y = 0 ∨ (fun _ : Nat => (0 : Int)) y = 1 := fun _ => Or.inl rfl
  refine ⟨0, 0, 0, 0, 0, fun _ => 0, fun _ => 0, fun _ => 0, fun _ => 0, fun _ => 0, fun _ => 0, fun _ => 0, fun _ => 0, fun _ => 0, fun _ => 0, fun _ => 0, fun _ => 0, fun _ => 0, fun _ => 0, fun _ => 0, fun _ => 0, fun _ => 0, 0, x, fun _ => True,
    ⟨⟨by omega, by omega, by omega, fun k hk => absurd hk (by omega), fun i j _ hj => absurd hj (by omega)⟩, hHd0, fun y hy => absurd hy (hno y), h01, ⟨hp0, fun y hy => absurd hy.1 (hno y), h01⟩, fun v hv => absurd hv (by omega)⟩,
    ⟨rfl, rfl, ⟨rfl, rfl, rfl, fun _ => rfl, fun _ => rfl, fun k hk => absurd hk (by omega), fun k hk => absurd hk (by omega), fun _ => 0, fun _ => 0, fun _ => 0, fun _ => 0, ⟨rfl, rfl, fun k hk => absurd hk (by omega), fun _ _ => rfl⟩, ?_, ⟨rfl, rfl, fun k hk => absurd hk (by omega), fun _ _ => rfl⟩, ?_⟩,
      ⟨⟨fun _ => rfl, fun _ => rfl⟩, h01, hHd0, fun v hv => absurd hv (by omega), ⟨fun v hv => absurd hv (by omega), fun x hx => absurd hx.1 (hno x)⟩, fun x hx => absurd hx.1 (hno x)⟩, fun _ => rfl,
      ⟨fun p hp => absurd hp (by omega), fun p hp => absurd hp (by omega), hp0⟩, ⟨rfl, fun k hk => absurd hk (by omega)⟩,
      ⟨fun _ => 0, fun _ => rfl, fun i hi => absurd hi (by omega), fun i j _ hj => absurd hj (by omega), fun v hv => absurd hv (by omega)⟩, fun v hv => absurd hv (by omega),
      ⟨by show (0 : Int) ≤ 0; omega, by show (0 : Int) ≤ 0; omega, by show (0 : Int) ≤ 0; omega, by show (0 : Int) ≤ 0; omega⟩,
      ⟨by show (0 : Int) ≤ 0; omega, fun _ => ⟨⟨fun _ => 0, fun _ => 0, ⟨fun _ _ => rfl, fun i hi => absurd hi (Nat.not_lt_zero _), Nat.zero_le _⟩, ⟨rfl, fun v hv => absurd hv (by omega), fun v _ hv => absurd hv (by omega), fun v _ _ hv => absurd hv (by omega), fun v _ hv => absurd hv (by omega)⟩⟩, fun v hv => absurd hv (by omega), rfl⟩⟩,
      ⟨by show (0 : Int) ≤ 0; omega, fun _ v hv => absurd hv (by omega)⟩, ⟨by show (0 : Int) ≤ 0; omega, fun _ v hv => absurd hv (by omega)⟩⟩,
    ⟨rfl, fun k hk => absurd hk (by omega), fun y hy => ⟨fun k hk => absurd hk (by omega), fun _ => ?_⟩, fun y hy => ⟨fun k hk => absurd hk (by omega), fun _ => ?_⟩⟩, plOk_nil,
    ⟨⟨rfl, rfl, rfl, fun k hk => absurd hk (by omega), fun _ => rfl, fun _ => rfl, fun _ => rfl, fun _ => rfl, fun _ => rfl, fun x hx => absurd hx (by omega)⟩, ⟨fun p hp => absurd hp (by omega), fun p hp => absurd hp (by omega), hp0⟩, fun _ => rfl, ⟨rfl, fun k hk => absurd hk (by omega)⟩, rfl, ⟨rfl, fun k hk => absurd hk (by omega)⟩, rfl⟩, by omega, ?_⟩
  · exact ⟨rfl, rfl, fun v hv => absurd hv (by omega), fun v hv => absurd hv (by omega), fun v _ _ hv => absurd hv (by omega), fun k hk => absurd hk (by omega)⟩
  · exact ⟨rfl, rfl, fun v hv => absurd hv (by omega), fun v hv => absurd hv (by omega), fun v _ _ hv => absurd hv (by omega), fun k hk => absurd hk (by omega)⟩
  · show (if y < 5000 then (-1 : Int) else 0) = -1
    rw [if_pos hy]
  · show (if y < 60 then (-1 : Int) else 0) = -1
    rw [if_pos hy]
  · show (0 : Int) ≤ 0
    omega
