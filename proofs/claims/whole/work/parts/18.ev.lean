/-! EV: what the layout answers, by object -/
theorem ev_kp : (∀ σ : kS, kget 11 0 (.inr (.inl 0)) σ = some (.inl (σ 0 0))) ∧
  (∀ σ : kS, kget 11 1 (.inr (.inl 0)) σ = some (.inr (.inl 1))) ∧
  (∀ σ : kS, kget 11 2 (.inr (.inl 0)) σ = some (.inr (.inl 4))) ∧
  (∀ σ : kS, kget 11 3 (.inr (.inl 0)) σ = some (.inr (.inl 5))) ∧
  (∀ σ : kS, kget 11 4 (.inr (.inl 0)) σ = some (.inr (.inl 6))) ∧
  (∀ σ : kS, kget 11 5 (.inr (.inl 0)) σ = some (.inr (.inl 7))) ∧
  (∀ σ : kS, kget 11 6 (.inr (.inl 0)) σ = some (.inr (.inl 8))) ∧
  (∀ σ : kS, kget 11 7 (.inr (.inl 0)) σ = some (.inr (.inl 9))) ∧
  (∀ σ : kS, kget 11 8 (.inr (.inl 0)) σ = some (.inr (.inl 10))) ∧
  (∀ σ : kS, kget 11 9 (.inr (.inl 0)) σ = some (.inr (.inl 12))) ∧
  (∀ σ : kS, kget 11 10 (.inr (.inl 0)) σ = some (.inr (.inl 11))) ∧
  (∀ σ : kS, kget 11 11 (.inr (.inl 0)) σ = some (.inr (.inl 13))) ∧
  (∀ σ : kS, kget 11 12 (.inr (.inl 0)) σ = some (.inl (σ 0 12))) ∧
  (∀ (σ : kS) (z : Int), kput 11 0 (.inr (.inl 0)) (.inl z) σ = some (kup σ 0 0 z)) ∧
  (∀ (σ : kS) (z : Int), kput 11 12 (.inr (.inl 0)) (.inl z) σ = some (kup σ 0 12 z)) ∧
  (∀ vs : List kV, kisO 11 (.inr (.inl 0) :: vs) = true) := ⟨fun _ => rfl, fun _ => rfl, fun _ => rfl, fun _ => rfl, fun _ => rfl, fun _ => rfl, fun _ => rfl, fun _ => rfl, fun _ => rfl, fun _ => rfl, fun _ => rfl, fun _ => rfl, fun _ => rfl, fun _ _ => rfl, fun _ _ => rfl, fun _ => rfl⟩
theorem ev_web : (∀ σ : kS, kget 10 0 (.inr (.inl 1)) σ = some (.inr (.inl 15))) ∧
  (∀ σ : kS, kget 10 1 (.inr (.inl 1)) σ = some (.inr (.inl 16))) ∧
  (∀ σ : kS, kget 10 2 (.inr (.inl 1)) σ = some (.inr (.inl 17))) ∧
  (∀ σ : kS, kget 10 3 (.inr (.inl 1)) σ = some (.inl (σ 1 3))) ∧
  (∀ σ : kS, kget 10 4 (.inr (.inl 1)) σ = some (.inl (σ 1 4))) ∧
  (∀ σ : kS, kget 10 5 (.inr (.inl 1)) σ = some (.inl (σ 1 5))) ∧
  (∀ σ : kS, kget 10 6 (.inr (.inl 1)) σ = some (.inr (.inl 2))) ∧
  (∀ σ : kS, kget 10 7 (.inr (.inl 1)) σ = some (.inr (.inl 3))) ∧
  (∀ σ : kS, kget 10 8 (.inr (.inl 1)) σ = some (.inr (.inl 18))) ∧
  (∀ σ : kS, kget 10 9 (.inr (.inl 1)) σ = some (.inl (σ 1 9))) ∧
  (∀ (σ : kS) (z : Int), kput 10 3 (.inr (.inl 1)) (.inl z) σ = some (kup σ 1 3 z)) ∧
  (∀ (σ : kS) (z : Int), kput 10 4 (.inr (.inl 1)) (.inl z) σ = some (kup σ 1 4 z)) ∧
  (∀ (σ : kS) (z : Int), kput 10 5 (.inr (.inl 1)) (.inl z) σ = some (kup σ 1 5 z)) ∧
  (∀ (σ : kS) (z : Int), kput 10 9 (.inr (.inl 1)) (.inl z) σ = some (kup σ 1 9 z)) ∧
  (∀ vs : List kV, kisO 10 (.inr (.inl 1) :: vs) = true) := ⟨fun _ => rfl, fun _ => rfl, fun _ => rfl, fun _ => rfl, fun _ => rfl, fun _ => rfl, fun _ => rfl, fun _ => rfl, fun _ => rfl, fun _ => rfl, fun _ _ => rfl, fun _ _ => rfl, fun _ _ => rfl, fun _ _ => rfl, fun _ => rfl⟩
theorem ev_fout : (∀ σ : kS, kget 1 0 (.inr (.inl 2)) σ = some (.inr (.inl 19))) ∧
  (∀ σ : kS, kget 1 1 (.inr (.inl 2)) σ = some (.inr (.inl 20))) ∧
  (∀ σ : kS, kget 1 2 (.inr (.inl 2)) σ = some (.inl (σ 2 2))) ∧
  (∀ σ : kS, kget 1 3 (.inr (.inl 2)) σ = some (.inl (σ 2 3))) ∧
  (∀ (σ : kS) (z : Int), kput 1 2 (.inr (.inl 2)) (.inl z) σ = some (kup σ 2 2 z)) ∧
  (∀ (σ : kS) (z : Int), kput 1 3 (.inr (.inl 2)) (.inl z) σ = some (kup σ 2 3 z)) ∧
  (∀ vs : List kV, kisO 1 (.inr (.inl 2) :: vs) = true) := ⟨fun _ => rfl, fun _ => rfl, fun _ => rfl, fun _ => rfl, fun _ _ => rfl, fun _ _ => rfl, fun _ => rfl⟩
theorem ev_fin : (∀ σ : kS, kget 1 0 (.inr (.inl 3)) σ = some (.inr (.inl 21))) ∧
  (∀ σ : kS, kget 1 1 (.inr (.inl 3)) σ = some (.inr (.inl 22))) ∧
  (∀ σ : kS, kget 1 2 (.inr (.inl 3)) σ = some (.inl (σ 3 2))) ∧
  (∀ σ : kS, kget 1 3 (.inr (.inl 3)) σ = some (.inl (σ 3 3))) ∧
  (∀ (σ : kS) (z : Int), kput 1 2 (.inr (.inl 3)) (.inl z) σ = some (kup σ 3 2 z)) ∧
  (∀ (σ : kS) (z : Int), kput 1 3 (.inr (.inl 3)) (.inl z) σ = some (kup σ 3 3 z)) ∧
  (∀ vs : List kV, kisO 1 (.inr (.inl 3) :: vs) = true) := ⟨fun _ => rfl, fun _ => rfl, fun _ => rfl, fun _ => rfl, fun _ _ => rfl, fun _ _ => rfl, fun _ => rfl⟩
theorem ev_trees : (∀ σ : kS, kget 8 0 (.inr (.inl 4)) σ = some (.inr (.inl 23))) ∧
  (∀ σ : kS, kget 8 1 (.inr (.inl 4)) σ = some (.inr (.inl 24))) ∧
  (∀ σ : kS, kget 8 2 (.inr (.inl 4)) σ = some (.inr (.inl 25))) ∧
  (∀ σ : kS, kget 8 3 (.inr (.inl 4)) σ = some (.inr (.inl 26))) ∧
  (∀ σ : kS, kget 8 4 (.inr (.inl 4)) σ = some (.inr (.inl 27))) ∧
  (∀ σ : kS, kget 8 5 (.inr (.inl 4)) σ = some (.inr (.inl 28))) ∧
  (∀ σ : kS, kget 8 6 (.inr (.inl 4)) σ = some (.inr (.inl 1))) ∧
  (∀ σ : kS, kget 8 7 (.inr (.inl 4)) σ = some (.inr (.inl 29))) ∧
  (∀ σ : kS, kget 8 8 (.inr (.inl 4)) σ = some (.inr (.inl 30))) ∧
  (∀ vs : List kV, kisO 8 (.inr (.inl 4) :: vs) = true) := ⟨fun _ => rfl, fun _ => rfl, fun _ => rfl, fun _ => rfl, fun _ => rfl, fun _ => rfl, fun _ => rfl, fun _ => rfl, fun _ => rfl, fun _ => rfl⟩
theorem ev_odds : (∀ σ : kS, kget 3 0 (.inr (.inl 5)) σ = some (.inr (.inl 1))) ∧
  (∀ σ : kS, kget 3 1 (.inr (.inl 5)) σ = some (.inr (.inl 4))) ∧
  (∀ σ : kS, kget 3 2 (.inr (.inl 5)) σ = some (.inr (.inl 31))) ∧
  (∀ vs : List kV, kisO 3 (.inr (.inl 5) :: vs) = true) := ⟨fun _ => rfl, fun _ => rfl, fun _ => rfl, fun _ => rfl⟩
theorem ev_twice : (∀ σ : kS, kget 9 0 (.inr (.inl 6)) σ = some (.inr (.inl 1))) ∧
  (∀ σ : kS, kget 9 1 (.inr (.inl 6)) σ = some (.inr (.inl 4))) ∧
  (∀ σ : kS, kget 9 2 (.inr (.inl 6)) σ = some (.inr (.inl 32))) ∧
  (∀ σ : kS, kget 9 3 (.inr (.inl 6)) σ = some (.inl (σ 6 3))) ∧
  (∀ (σ : kS) (z : Int), kput 9 3 (.inr (.inl 6)) (.inl z) σ = some (kup σ 6 3 z)) ∧
  (∀ vs : List kV, kisO 9 (.inr (.inl 6) :: vs) = true) := ⟨fun _ => rfl, fun _ => rfl, fun _ => rfl, fun _ => rfl, fun _ _ => rfl, fun _ => rfl⟩
theorem ev_row : (∀ σ : kS, kget 5 0 (.inr (.inl 7)) σ = some (.inr (.inl 33))) ∧
  (∀ σ : kS, kget 5 1 (.inr (.inl 7)) σ = some (.inr (.inl 1))) ∧
  (∀ σ : kS, kget 5 2 (.inr (.inl 7)) σ = some (.inr (.inl 34))) ∧
  (∀ σ : kS, kget 5 3 (.inr (.inl 7)) σ = some (.inr (.inl 35))) ∧
  (∀ σ : kS, kget 5 4 (.inr (.inl 7)) σ = some (.inr (.inl 36))) ∧
  (∀ σ : kS, kget 5 5 (.inr (.inl 7)) σ = some (.inr (.inl 37))) ∧
  (∀ σ : kS, kget 5 6 (.inr (.inl 7)) σ = some (.inr (.inl 38))) ∧
  (∀ σ : kS, kget 5 7 (.inr (.inl 7)) σ = some (.inr (.inl 39))) ∧
  (∀ σ : kS, kget 5 8 (.inr (.inl 7)) σ = some (.inr (.inl 40))) ∧
  (∀ σ : kS, kget 5 9 (.inr (.inl 7)) σ = some (.inl (σ 7 9))) ∧
  (∀ (σ : kS) (z : Int), kput 5 9 (.inr (.inl 7)) (.inl z) σ = some (kup σ 7 9 z)) ∧
  (∀ vs : List kV, kisO 5 (.inr (.inl 7) :: vs) = true) := ⟨fun _ => rfl, fun _ => rfl, fun _ => rfl, fun _ => rfl, fun _ => rfl, fun _ => rfl, fun _ => rfl, fun _ => rfl, fun _ => rfl, fun _ => rfl, fun _ _ => rfl, fun _ => rfl⟩
theorem ev_strong : (∀ σ : kS, kget 7 0 (.inr (.inl 8)) σ = some (.inr (.inl 1))) ∧
  (∀ σ : kS, kget 7 1 (.inr (.inl 8)) σ = some (.inr (.inl 41))) ∧
  (∀ σ : kS, kget 7 2 (.inr (.inl 8)) σ = some (.inr (.inl 42))) ∧
  (∀ σ : kS, kget 7 3 (.inr (.inl 8)) σ = some (.inr (.inl 43))) ∧
  (∀ σ : kS, kget 7 4 (.inr (.inl 8)) σ = some (.inr (.inl 44))) ∧
  (∀ σ : kS, kget 7 5 (.inr (.inl 8)) σ = some (.inl (σ 8 5))) ∧
  (∀ σ : kS, kget 7 6 (.inr (.inl 8)) σ = some (.inl (σ 8 6))) ∧
  (∀ (σ : kS) (z : Int), kput 7 5 (.inr (.inl 8)) (.inl z) σ = some (kup σ 8 5 z)) ∧
  (∀ (σ : kS) (z : Int), kput 7 6 (.inr (.inl 8)) (.inl z) σ = some (kup σ 8 6 z)) ∧
  (∀ vs : List kV, kisO 7 (.inr (.inl 8) :: vs) = true) := ⟨fun _ => rfl, fun _ => rfl, fun _ => rfl, fun _ => rfl, fun _ => rfl, fun _ => rfl, fun _ => rfl, fun _ _ => rfl, fun _ _ => rfl, fun _ => rfl⟩
theorem ev_sides : (∀ σ : kS, kget 6 0 (.inr (.inl 9)) σ = some (.inr (.inl 1))) ∧
  (∀ σ : kS, kget 6 1 (.inr (.inl 9)) σ = some (.inr (.inl 45))) ∧
  (∀ σ : kS, kget 6 2 (.inr (.inl 9)) σ = some (.inr (.inl 46))) ∧
  (∀ σ : kS, kget 6 3 (.inr (.inl 9)) σ = some (.inr (.inl 47))) ∧
  (∀ σ : kS, kget 6 4 (.inr (.inl 9)) σ = some (.inr (.inl 48))) ∧
  (∀ σ : kS, kget 6 5 (.inr (.inl 9)) σ = some (.inr (.inl 49))) ∧
  (∀ σ : kS, kget 6 6 (.inr (.inl 9)) σ = some (.inr (.inl 50))) ∧
  (∀ σ : kS, kget 6 7 (.inr (.inl 9)) σ = some (.inr (.inr (σ 9 7)))) ∧
  (∀ σ : kS, kget 6 8 (.inr (.inl 9)) σ = some (.inl (σ 9 8))) ∧
  (∀ (σ : kS) (z : Int), kput 6 7 (.inr (.inl 9)) (.inr (.inr z)) σ = some (kup σ 9 7 z)) ∧
  (∀ (σ : kS) (z : Int), kput 6 8 (.inr (.inl 9)) (.inl z) σ = some (kup σ 9 8 z)) ∧
  (∀ vs : List kV, kisO 6 (.inr (.inl 9) :: vs) = true) := ⟨fun _ => rfl, fun _ => rfl, fun _ => rfl, fun _ => rfl, fun _ => rfl, fun _ => rfl, fun _ => rfl, fun _ => rfl, fun _ => rfl, fun _ _ => rfl, fun _ _ => rfl, fun _ => rfl⟩
theorem ev_chosen : (∀ σ : kS, kget 0 0 (.inr (.inl 10)) σ = some (.inr (.inl 1))) ∧
  (∀ σ : kS, kget 0 1 (.inr (.inl 10)) σ = some (.inr (.inl 51))) ∧
  (∀ σ : kS, kget 0 2 (.inr (.inl 10)) σ = some (.inr (.inl 52))) ∧
  (∀ σ : kS, kget 0 3 (.inr (.inl 10)) σ = some (.inr (.inl 53))) ∧
  (∀ vs : List kV, kisO 0 (.inr (.inl 10) :: vs) = true) := ⟨fun _ => rfl, fun _ => rfl, fun _ => rfl, fun _ => rfl, fun _ => rfl⟩
theorem ev_joiner : (∀ σ : kS, kget 2 0 (.inr (.inl 11)) σ = some (.inl (σ 11 0))) ∧
  (∀ σ : kS, kget 2 1 (.inr (.inl 11)) σ = some (.inl (σ 11 1))) ∧
  (∀ σ : kS, kget 2 2 (.inr (.inl 11)) σ = some (.inl (σ 11 2))) ∧
  (∀ σ : kS, kget 2 3 (.inr (.inl 11)) σ = some (.inr (.inl 54))) ∧
  (∀ σ : kS, kget 2 4 (.inr (.inl 11)) σ = some (.inr (.inl 55))) ∧
  (∀ σ : kS, kget 2 5 (.inr (.inl 11)) σ = some (.inr (.inl 56))) ∧
  (∀ σ : kS, kget 2 6 (.inr (.inl 11)) σ = some (.inr (.inl 57))) ∧
  (∀ (σ : kS) (z : Int), kput 2 0 (.inr (.inl 11)) (.inl z) σ = some (kup σ 11 0 z)) ∧
  (∀ (σ : kS) (z : Int), kput 2 1 (.inr (.inl 11)) (.inl z) σ = some (kup σ 11 1 z)) ∧
  (∀ (σ : kS) (z : Int), kput 2 2 (.inr (.inl 11)) (.inl z) σ = some (kup σ 11 2 z)) ∧
  (∀ vs : List kV, kisO 2 (.inr (.inl 11) :: vs) = true) := ⟨fun _ => rfl, fun _ => rfl, fun _ => rfl, fun _ => rfl, fun _ => rfl, fun _ => rfl, fun _ => rfl, fun _ _ => rfl, fun _ _ => rfl, fun _ _ => rfl, fun _ => rfl⟩
theorem ev_plan : (∀ σ : kS, kget 4 0 (.inr (.inl 12)) σ = some (.inl (σ 12 0))) ∧
  (∀ σ : kS, kget 4 1 (.inr (.inl 12)) σ = some (.inr (.inl 1))) ∧
  (∀ σ : kS, kget 4 2 (.inr (.inl 12)) σ = some (.inr (.inl 11))) ∧
  (∀ σ : kS, kget 4 3 (.inr (.inl 12)) σ = some (.inr (.inl 58))) ∧
  (∀ σ : kS, kget 4 4 (.inr (.inl 12)) σ = some (.inr (.inl 59))) ∧
  (∀ σ : kS, kget 4 5 (.inr (.inl 12)) σ = some (.inr (.inl 60))) ∧
  (∀ σ : kS, kget 4 6 (.inr (.inl 12)) σ = some (.inr (.inl 61))) ∧
  (∀ σ : kS, kget 4 7 (.inr (.inl 12)) σ = some (.inr (.inl 62))) ∧
  (∀ σ : kS, kget 4 8 (.inr (.inl 12)) σ = some (.inr (.inl 63))) ∧
  (∀ (σ : kS) (z : Int), kput 4 0 (.inr (.inl 12)) (.inl z) σ = some (kup σ 12 0 z)) ∧
  (∀ vs : List kV, kisO 4 (.inr (.inl 12) :: vs) = true) := ⟨fun _ => rfl, fun _ => rfl, fun _ => rfl, fun _ => rfl, fun _ => rfl, fun _ => rfl, fun _ => rfl, fun _ => rfl, fun _ => rfl, fun _ _ => rfl, fun _ => rfl⟩
theorem ev_anew : (∀ σ : kS, kget 6 0 (.inr (.inl 13)) σ = some (.inr (.inl 1))) ∧
  (∀ σ : kS, kget 6 1 (.inr (.inl 13)) σ = some (.inr (.inl 64))) ∧
  (∀ σ : kS, kget 6 2 (.inr (.inl 13)) σ = some (.inr (.inl 65))) ∧
  (∀ σ : kS, kget 6 3 (.inr (.inl 13)) σ = some (.inr (.inl 66))) ∧
  (∀ σ : kS, kget 6 4 (.inr (.inl 13)) σ = some (.inr (.inl 67))) ∧
  (∀ σ : kS, kget 6 5 (.inr (.inl 13)) σ = some (.inr (.inl 68))) ∧
  (∀ σ : kS, kget 6 6 (.inr (.inl 13)) σ = some (.inr (.inl 69))) ∧
  (∀ σ : kS, kget 6 7 (.inr (.inl 13)) σ = some (.inr (.inr (σ 13 7)))) ∧
  (∀ σ : kS, kget 6 8 (.inr (.inl 13)) σ = some (.inl (σ 13 8))) ∧
  (∀ (σ : kS) (z : Int), kput 6 7 (.inr (.inl 13)) (.inr (.inr z)) σ = some (kup σ 13 7 z)) ∧
  (∀ (σ : kS) (z : Int), kput 6 8 (.inr (.inl 13)) (.inl z) σ = some (kup σ 13 8 z)) ∧
  (∀ vs : List kV, kisO 6 (.inr (.inl 13) :: vs) = true) := ⟨fun _ => rfl, fun _ => rfl, fun _ => rfl, fun _ => rfl, fun _ => rfl, fun _ => rfl, fun _ => rfl, fun _ => rfl, fun _ => rfl, fun _ _ => rfl, fun _ _ => rfl, fun _ => rfl⟩
theorem ev_model : (∀ σ : kS, kget 12 0 (.inr (.inl 14)) σ = some (.inl (σ 14 0))) ∧
  (∀ σ : kS, kget 12 1 (.inr (.inl 14)) σ = some (.inl (σ 14 1))) ∧
  (∀ σ : kS, kget 12 2 (.inr (.inl 14)) σ = some (.inr (.inl 70))) ∧
  (∀ σ : kS, kget 12 3 (.inr (.inl 14)) σ = some (.inl (σ 14 3))) ∧
  (∀ σ : kS, kget 12 4 (.inr (.inl 14)) σ = some (.inr (.inl 71))) ∧
  (∀ σ : kS, kget 12 5 (.inr (.inl 14)) σ = some (.inr (.inl 72))) ∧
  (∀ σ : kS, kget 12 6 (.inr (.inl 14)) σ = some (.inr (.inl 73))) ∧
  (∀ σ : kS, kget 12 7 (.inr (.inl 14)) σ = some (.inr (.inl 74))) ∧
  (∀ σ : kS, kget 12 8 (.inr (.inl 14)) σ = some (.inr (.inl 75))) ∧
  (∀ σ : kS, kget 12 9 (.inr (.inl 14)) σ = some (.inr (.inl 76))) ∧
  (∀ σ : kS, kget 12 10 (.inr (.inl 14)) σ = some (.inl (σ 14 10))) ∧
  (∀ σ : kS, kget 12 11 (.inr (.inl 14)) σ = some (.inr (.inl 77))) ∧
  (∀ σ : kS, kget 12 12 (.inr (.inl 14)) σ = some (.inr (.inl 78))) ∧
  (∀ σ : kS, kget 12 13 (.inr (.inl 14)) σ = some (.inr (.inl 79))) ∧
  (∀ σ : kS, kget 12 14 (.inr (.inl 14)) σ = some (.inl (σ 14 14))) ∧
  (∀ σ : kS, kget 12 15 (.inr (.inl 14)) σ = some (.inr (.inl 80))) ∧
  (∀ σ : kS, kget 12 16 (.inr (.inl 14)) σ = some (.inl (σ 14 16))) ∧
  (∀ σ : kS, kget 12 17 (.inr (.inl 14)) σ = some (.inl (σ 14 17))) ∧
  (∀ σ : kS, kget 12 18 (.inr (.inl 14)) σ = some (.inr (.inl 81))) ∧
  (∀ σ : kS, kget 12 19 (.inr (.inl 14)) σ = some (.inr (.inl 82))) ∧
  (∀ σ : kS, kget 12 20 (.inr (.inl 14)) σ = some (.inr (.inl 83))) ∧
  (∀ σ : kS, kget 12 21 (.inr (.inl 14)) σ = some (.inr (.inl 84))) ∧
  (∀ σ : kS, kget 12 22 (.inr (.inl 14)) σ = some (.inl (σ 14 22))) ∧
  (∀ σ : kS, kget 12 23 (.inr (.inl 14)) σ = some (.inr (.inl 85))) ∧
  (∀ σ : kS, kget 12 24 (.inr (.inl 14)) σ = some (.inr (.inl 86))) ∧
  (∀ σ : kS, kget 12 25 (.inr (.inl 14)) σ = some (.inr (.inl 87))) ∧
  (∀ σ : kS, kget 12 26 (.inr (.inl 14)) σ = some (.inr (.inl 88))) ∧
  (∀ σ : kS, kget 12 27 (.inr (.inl 14)) σ = some (.inl (σ 14 27))) ∧
  (∀ σ : kS, kget 12 28 (.inr (.inl 14)) σ = some (.inr (.inl 89))) ∧
  (∀ σ : kS, kget 12 29 (.inr (.inl 14)) σ = some (.inr (.inl 90))) ∧
  (∀ σ : kS, kget 12 30 (.inr (.inl 14)) σ = some (.inr (.inl 91))) ∧
  (∀ σ : kS, kget 12 31 (.inr (.inl 14)) σ = some (.inr (.inl 92))) ∧
  (∀ σ : kS, kget 12 32 (.inr (.inl 14)) σ = some (.inr (.inl 93))) ∧
  (∀ σ : kS, kget 12 33 (.inr (.inl 14)) σ = some (.inr (.inl 94))) ∧
  (∀ σ : kS, kget 12 34 (.inr (.inl 14)) σ = some (.inr (.inl 95))) ∧
  (∀ σ : kS, kget 12 35 (.inr (.inl 14)) σ = some (.inr (.inl 96))) ∧
  (∀ σ : kS, kget 12 36 (.inr (.inl 14)) σ = some (.inr (.inl 97))) ∧
  (∀ σ : kS, kget 12 37 (.inr (.inl 14)) σ = some (.inr (.inl 98))) ∧
  (∀ σ : kS, kget 12 38 (.inr (.inl 14)) σ = some (.inr (.inl 99))) ∧
  (∀ σ : kS, kget 12 39 (.inr (.inl 14)) σ = some (.inr (.inl 100))) ∧
  (∀ σ : kS, kget 12 40 (.inr (.inl 14)) σ = some (.inr (.inl 101))) ∧
  (∀ σ : kS, kget 12 41 (.inr (.inl 14)) σ = some (.inr (.inl 102))) ∧
  (∀ σ : kS, kget 12 42 (.inr (.inl 14)) σ = some (.inr (.inl 103))) ∧
  (∀ σ : kS, kget 12 43 (.inr (.inl 14)) σ = some (.inr (.inl 104))) ∧
  (∀ σ : kS, kget 12 44 (.inr (.inl 14)) σ = some (.inl (σ 14 44))) ∧
  (∀ σ : kS, kget 12 45 (.inr (.inl 14)) σ = some (.inr (.inl 105))) ∧
  (∀ σ : kS, kget 12 46 (.inr (.inl 14)) σ = some (.inr (.inl 106))) ∧
  (∀ σ : kS, kget 12 47 (.inr (.inl 14)) σ = some (.inr (.inl 107))) ∧
  (∀ σ : kS, kget 12 48 (.inr (.inl 14)) σ = some (.inr (.inl 108))) ∧
  (∀ σ : kS, kget 12 49 (.inr (.inl 14)) σ = some (.inr (.inl 109))) ∧
  (∀ (σ : kS) (z : Int), kput 12 0 (.inr (.inl 14)) (.inl z) σ = some (kup σ 14 0 z)) ∧
  (∀ (σ : kS) (z : Int), kput 12 1 (.inr (.inl 14)) (.inl z) σ = some (kup σ 14 1 z)) ∧
  (∀ (σ : kS) (z : Int), kput 12 3 (.inr (.inl 14)) (.inl z) σ = some (kup σ 14 3 z)) ∧
  (∀ (σ : kS) (z : Int), kput 12 10 (.inr (.inl 14)) (.inl z) σ = some (kup σ 14 10 z)) ∧
  (∀ (σ : kS) (z : Int), kput 12 14 (.inr (.inl 14)) (.inl z) σ = some (kup σ 14 14 z)) ∧
  (∀ (σ : kS) (z : Int), kput 12 16 (.inr (.inl 14)) (.inl z) σ = some (kup σ 14 16 z)) ∧
  (∀ (σ : kS) (z : Int), kput 12 17 (.inr (.inl 14)) (.inl z) σ = some (kup σ 14 17 z)) ∧
  (∀ (σ : kS) (z : Int), kput 12 22 (.inr (.inl 14)) (.inl z) σ = some (kup σ 14 22 z)) ∧
  (∀ (σ : kS) (z : Int), kput 12 27 (.inr (.inl 14)) (.inl z) σ = some (kup σ 14 27 z)) ∧
  (∀ (σ : kS) (z : Int), kput 12 44 (.inr (.inl 14)) (.inl z) σ = some (kup σ 14 44 z)) ∧
  (∀ vs : List kV, kisO 12 (.inr (.inl 14) :: vs) = true) := ⟨fun _ => rfl, fun _ => rfl, fun _ => rfl, fun _ => rfl, fun _ => rfl, fun _ => rfl, fun _ => rfl, fun _ => rfl, fun _ => rfl, fun _ => rfl, fun _ => rfl, fun _ => rfl, fun _ => rfl, fun _ => rfl, fun _ => rfl, fun _ => rfl, fun _ => rfl, fun _ => rfl, fun _ => rfl, fun _ => rfl, fun _ => rfl, fun _ => rfl, fun _ => rfl, fun _ => rfl, fun _ => rfl, fun _ => rfl, fun _ => rfl, fun _ => rfl, fun _ => rfl, fun _ => rfl, fun _ => rfl, fun _ => rfl, fun _ => rfl, fun _ => rfl, fun _ => rfl, fun _ => rfl, fun _ => rfl, fun _ => rfl, fun _ => rfl, fun _ => rfl, fun _ => rfl, fun _ => rfl, fun _ => rfl, fun _ => rfl, fun _ => rfl, fun _ => rfl, fun _ => rfl, fun _ => rfl, fun _ => rfl, fun _ => rfl, fun _ _ => rfl, fun _ _ => rfl, fun _ _ => rfl, fun _ _ => rfl, fun _ _ => rfl, fun _ _ => rfl, fun _ _ => rfl, fun _ _ => rfl, fun _ _ => rfl, fun _ _ => rfl, fun _ => rfl⟩
theorem ev_web_arr : kFA (.inr (.inl 15)) 0 = some (15, 5000) ∧
  kFA (.inr (.inl 16)) 0 = some (16, 5000) ∧
  kFA (.inr (.inl 17)) 0 = some (17, 900) ∧
  kFA (.inr (.inl 18)) 1 = some (18, 5000) := ⟨rfl, rfl, rfl, rfl⟩
theorem ev_fout_arr : kFA (.inr (.inl 19)) 0 = some (19, 900) ∧
  kFA (.inr (.inl 20)) 0 = some (20, 301) := ⟨rfl, rfl⟩
theorem ev_fin_arr : kFA (.inr (.inl 21)) 0 = some (21, 900) ∧
  kFA (.inr (.inl 22)) 0 = some (22, 301) := ⟨rfl, rfl⟩
theorem ev_trees_arr : kFA (.inr (.inl 23)) 0 = some (23, 5000) ∧
  kFA (.inr (.inl 24)) 1 = some (24, 5000) ∧
  kFA (.inr (.inl 25)) 0 = some (25, 300) ∧
  kFA (.inr (.inl 26)) 0 = some (26, 300) ∧
  kFA (.inr (.inl 27)) 0 = some (27, 300) ∧
  kFA (.inr (.inl 28)) 0 = some (28, 300) ∧
  kFA (.inr (.inl 29)) 0 = some (29, 300) ∧
  kFA (.inr (.inl 30)) 0 = some (30, 300) := ⟨rfl, rfl, rfl, rfl, rfl, rfl, rfl, rfl⟩
theorem ev_odds_arr : kFA (.inr (.inl 31)) 1 = some (31, 300) := rfl
theorem ev_twice_arr : kFA (.inr (.inl 32)) 0 = some (32, 300) := rfl
theorem ev_row_arr : kFA (.inr (.inl 33)) 1 = some (33, 5000) ∧
  kFA (.inr (.inl 34)) 0 = some (34, 300) ∧
  kFA (.inr (.inl 35)) 0 = some (35, 300) ∧
  kFA (.inr (.inl 36)) 0 = some (36, 300) ∧
  kFA (.inr (.inl 37)) 0 = some (37, 300) ∧
  kFA (.inr (.inl 38)) 0 = some (38, 300) ∧
  kFA (.inr (.inl 39)) 0 = some (39, 300) ∧
  kFA (.inr (.inl 40)) 0 = some (40, 300) := ⟨rfl, rfl, rfl, rfl, rfl, rfl, rfl, rfl⟩
theorem ev_strong_arr : kFA (.inr (.inl 41)) 0 = some (41, 300) ∧
  kFA (.inr (.inl 42)) 0 = some (42, 300) ∧
  kFA (.inr (.inl 43)) 0 = some (43, 300) ∧
  kFA (.inr (.inl 44)) 0 = some (44, 300) := ⟨rfl, rfl, rfl, rfl⟩
theorem ev_sides_arr : kFA (.inr (.inl 45)) 0 = some (45, 301) ∧
  kFA (.inr (.inl 46)) 0 = some (46, 1800) ∧
  kFA (.inr (.inl 47)) 0 = some (47, 300) ∧
  kFA (.inr (.inl 48)) 0 = some (48, 300) ∧
  kFA (.inr (.inl 49)) 0 = some (49, 300) ∧
  kFA (.inr (.inl 50)) 0 = some (50, 300) := ⟨rfl, rfl, rfl, rfl, rfl, rfl⟩
theorem ev_chosen_arr : kFA (.inr (.inl 51)) 0 = some (51, 300) ∧
  kFA (.inr (.inl 52)) 0 = some (52, 300) ∧
  kFA (.inr (.inl 53)) 1 = some (53, 300) := ⟨rfl, rfl, rfl⟩
theorem ev_joiner_arr : kFA (.inr (.inl 54)) 0 = some (54, 300) ∧
  kFA (.inr (.inl 55)) 0 = some (55, 300) ∧
  kFA (.inr (.inl 56)) 0 = some (56, 300) ∧
  kFA (.inr (.inl 57)) 1 = some (57, 300) := ⟨rfl, rfl, rfl, rfl⟩
theorem ev_plan_arr : kFA (.inr (.inl 58)) 0 = some (58, 60) ∧
  kFA (.inr (.inl 59)) 1 = some (59, 60) ∧
  kFA (.inr (.inl 60)) 0 = some (60, 60) ∧
  kFA (.inr (.inl 61)) 0 = some (61, 60) ∧
  kFA (.inr (.inl 62)) 0 = some (62, 5000) ∧
  kFA (.inr (.inl 63)) 0 = some (63, 60) := ⟨rfl, rfl, rfl, rfl, rfl, rfl⟩
theorem ev_anew_arr : kFA (.inr (.inl 64)) 0 = some (64, 301) ∧
  kFA (.inr (.inl 65)) 0 = some (65, 1800) ∧
  kFA (.inr (.inl 66)) 0 = some (66, 300) ∧
  kFA (.inr (.inl 67)) 0 = some (67, 300) ∧
  kFA (.inr (.inl 68)) 0 = some (68, 300) ∧
  kFA (.inr (.inl 69)) 0 = some (69, 300) := ⟨rfl, rfl, rfl, rfl, rfl, rfl⟩
theorem ev_model_arr : kFA (.inr (.inl 70)) 0 = some (70, 300) ∧
  kFA (.inr (.inl 71)) 0 = some (71, 5000) ∧
  kFA (.inr (.inl 72)) 0 = some (72, 5000) ∧
  kFA (.inr (.inl 73)) 0 = some (73, 5000) ∧
  kFA (.inr (.inl 74)) 1 = some (74, 5000) ∧
  kFA (.inr (.inl 75)) 1 = some (75, 5000) ∧
  kFA (.inr (.inl 76)) 1 = some (76, 5000) ∧
  kFA (.inr (.inl 77)) 0 = some (77, 901) ∧
  kFA (.inr (.inl 78)) 0 = some (78, 300) ∧
  kFA (.inr (.inl 79)) 0 = some (79, 300) ∧
  kFA (.inr (.inl 80)) 0 = some (80, 300) ∧
  kFA (.inr (.inl 81)) 1 = some (81, 60) ∧
  kFA (.inr (.inl 82)) 0 = some (82, 60) ∧
  kFA (.inr (.inl 83)) 0 = some (83, 60) ∧
  kFA (.inr (.inl 84)) 0 = some (84, 60) ∧
  kFA (.inr (.inl 85)) 1 = some (85, 300) ∧
  kFA (.inr (.inl 86)) 0 = some (86, 300) ∧
  kFA (.inr (.inl 87)) 0 = some (87, 300) ∧
  kFA (.inr (.inl 88)) 0 = some (88, 300) ∧
  kFA (.inr (.inl 89)) 0 = some (89, 300) ∧
  kFA (.inr (.inl 90)) 0 = some (90, 10000) ∧
  kFA (.inr (.inl 91)) 1 = some (91, 300) ∧
  kFA (.inr (.inl 92)) 1 = some (92, 300) ∧
  kFA (.inr (.inl 93)) 0 = some (93, 300) ∧
  kFA (.inr (.inl 94)) 1 = some (94, 300) ∧
  kFA (.inr (.inl 95)) 1 = some (95, 300) ∧
  kFA (.inr (.inl 96)) 1 = some (96, 300) ∧
  kFA (.inr (.inl 97)) 1 = some (97, 90000) ∧
  kFA (.inr (.inl 98)) 0 = some (98, 300) ∧
  kFA (.inr (.inl 99)) 1 = some (99, 300) ∧
  kFA (.inr (.inl 100)) 1 = some (100, 300) ∧
  kFA (.inr (.inl 101)) 1 = some (101, 300) ∧
  kFA (.inr (.inl 102)) 0 = some (102, 300) ∧
  kFA (.inr (.inl 103)) 0 = some (103, 300) ∧
  kFA (.inr (.inl 104)) 0 = some (104, 300) ∧
  kFA (.inr (.inl 105)) 0 = some (105, 960) ∧
  kFA (.inr (.inl 106)) 0 = some (106, 960) ∧
  kFA (.inr (.inl 107)) 0 = some (107, 300) ∧
  kFA (.inr (.inl 108)) 0 = some (108, 300) ∧
  kFA (.inr (.inl 109)) 1 = some (109, 300) := ⟨rfl, rfl, rfl, rfl, rfl, rfl, rfl, rfl, rfl, rfl, rfl, rfl, rfl, rfl, rfl, rfl, rfl, rfl, rfl, rfl, rfl, rfl, rfl, rfl, rfl, rfl, rfl, rfl, rfl, rfl, rfl, rfl, rfl, rfl, rfl, rfl, rfl, rfl, rfl, rfl⟩
theorem ev_out_arr : kFA (.inr (.inl 110)) 2 = some (110, 1) := rfl
theorem ev_len : klen (.inr (.inl 15)) = some 5000 ∧ klen (.inr (.inl 16)) = some 5000 ∧ klen (.inr (.inl 17)) = some 900 ∧ klen (.inr (.inl 18)) = some 5000 ∧ klen (.inr (.inl 19)) = some 900 ∧ klen (.inr (.inl 20)) = some 301 ∧ klen (.inr (.inl 21)) = some 900 ∧ klen (.inr (.inl 22)) = some 301 ∧ klen (.inr (.inl 23)) = some 5000 ∧ klen (.inr (.inl 24)) = some 5000 ∧ klen (.inr (.inl 25)) = some 300 ∧ klen (.inr (.inl 26)) = some 300 ∧ klen (.inr (.inl 27)) = some 300 ∧ klen (.inr (.inl 28)) = some 300 ∧ klen (.inr (.inl 29)) = some 300 ∧ klen (.inr (.inl 30)) = some 300 ∧ klen (.inr (.inl 31)) = some 300 ∧ klen (.inr (.inl 32)) = some 300 ∧ klen (.inr (.inl 33)) = some 5000 ∧ klen (.inr (.inl 34)) = some 300 ∧ klen (.inr (.inl 35)) = some 300 ∧ klen (.inr (.inl 36)) = some 300 ∧ klen (.inr (.inl 37)) = some 300 ∧ klen (.inr (.inl 38)) = some 300 ∧ klen (.inr (.inl 39)) = some 300 ∧ klen (.inr (.inl 40)) = some 300 ∧ klen (.inr (.inl 41)) = some 300 ∧ klen (.inr (.inl 42)) = some 300 ∧ klen (.inr (.inl 43)) = some 300 ∧ klen (.inr (.inl 44)) = some 300 ∧ klen (.inr (.inl 45)) = some 301 ∧ klen (.inr (.inl 46)) = some 1800 ∧ klen (.inr (.inl 47)) = some 300 ∧ klen (.inr (.inl 48)) = some 300 ∧ klen (.inr (.inl 49)) = some 300 ∧ klen (.inr (.inl 50)) = some 300 ∧ klen (.inr (.inl 51)) = some 300 ∧ klen (.inr (.inl 52)) = some 300 ∧ klen (.inr (.inl 53)) = some 300 ∧ klen (.inr (.inl 54)) = some 300 ∧ klen (.inr (.inl 55)) = some 300 ∧ klen (.inr (.inl 56)) = some 300 ∧ klen (.inr (.inl 57)) = some 300 ∧ klen (.inr (.inl 58)) = some 60 ∧ klen (.inr (.inl 59)) = some 60 ∧ klen (.inr (.inl 60)) = some 60 ∧ klen (.inr (.inl 61)) = some 60 ∧ klen (.inr (.inl 62)) = some 5000 ∧ klen (.inr (.inl 63)) = some 60 ∧ klen (.inr (.inl 64)) = some 301 ∧ klen (.inr (.inl 65)) = some 1800 ∧ klen (.inr (.inl 66)) = some 300 ∧ klen (.inr (.inl 67)) = some 300 ∧ klen (.inr (.inl 68)) = some 300 ∧ klen (.inr (.inl 69)) = some 300 ∧ klen (.inr (.inl 70)) = some 300 ∧ klen (.inr (.inl 71)) = some 5000 ∧ klen (.inr (.inl 72)) = some 5000 ∧ klen (.inr (.inl 73)) = some 5000 ∧ klen (.inr (.inl 74)) = some 5000 ∧ klen (.inr (.inl 75)) = some 5000 ∧ klen (.inr (.inl 76)) = some 5000 ∧ klen (.inr (.inl 77)) = some 901 ∧ klen (.inr (.inl 78)) = some 300 ∧ klen (.inr (.inl 79)) = some 300 ∧ klen (.inr (.inl 80)) = some 300 ∧ klen (.inr (.inl 81)) = some 60 ∧ klen (.inr (.inl 82)) = some 60 ∧ klen (.inr (.inl 83)) = some 60 ∧ klen (.inr (.inl 84)) = some 60 ∧ klen (.inr (.inl 85)) = some 300 ∧ klen (.inr (.inl 86)) = some 300 ∧ klen (.inr (.inl 87)) = some 300 ∧ klen (.inr (.inl 88)) = some 300 ∧ klen (.inr (.inl 89)) = some 300 ∧ klen (.inr (.inl 90)) = some 10000 ∧ klen (.inr (.inl 91)) = some 300 ∧ klen (.inr (.inl 92)) = some 300 ∧ klen (.inr (.inl 93)) = some 300 ∧ klen (.inr (.inl 94)) = some 300 ∧ klen (.inr (.inl 95)) = some 300 ∧ klen (.inr (.inl 96)) = some 300 ∧ klen (.inr (.inl 97)) = some 90000 ∧ klen (.inr (.inl 98)) = some 300 ∧ klen (.inr (.inl 99)) = some 300 ∧ klen (.inr (.inl 100)) = some 300 ∧ klen (.inr (.inl 101)) = some 300 ∧ klen (.inr (.inl 102)) = some 300 ∧ klen (.inr (.inl 103)) = some 300 ∧ klen (.inr (.inl 104)) = some 300 ∧ klen (.inr (.inl 105)) = some 960 ∧ klen (.inr (.inl 106)) = some 960 ∧ klen (.inr (.inl 107)) = some 300 ∧ klen (.inr (.inl 108)) = some 300 ∧ klen (.inr (.inl 109)) = some 300 ∧ klen (.inr (.inl 110)) = some 1 := ⟨rfl, rfl, rfl, rfl, rfl, rfl, rfl, rfl, rfl, rfl, rfl, rfl, rfl, rfl, rfl, rfl, rfl, rfl, rfl, rfl, rfl, rfl, rfl, rfl, rfl, rfl, rfl, rfl, rfl, rfl, rfl, rfl, rfl, rfl, rfl, rfl, rfl, rfl, rfl, rfl, rfl, rfl, rfl, rfl, rfl, rfl, rfl, rfl, rfl, rfl, rfl, rfl, rfl, rfl, rfl, rfl, rfl, rfl, rfl, rfl, rfl, rfl, rfl, rfl, rfl, rfl, rfl, rfl, rfl, rfl, rfl, rfl, rfl, rfl, rfl, rfl, rfl, rfl, rfl, rfl, rfl, rfl, rfl, rfl, rfl, rfl, rfl, rfl, rfl, rfl, rfl, rfl, rfl, rfl, rfl, rfl⟩
/-- the calculus, for simp -/
theorem kck_iff {x z : Int} : kck x = some z ↔ (-2147483648 ≤ x ∧ x < 2147483648) ∧ x = z := by
  unfold kck
  constructor
  · intro h
    split at h
    · rename_i q; cases h; exact ⟨q, rfl⟩
    · cases h
  · rintro ⟨q, rfl⟩
    rw [if_pos q]
theorem kck64_iff {x z : Int} : kck64 x = some z ↔ (-9223372036854775808 ≤ x ∧ x < 9223372036854775808) ∧ x = z := by
  unfold kck64
  constructor
  · intro h
    split at h
    · rename_i q; cases h; exact ⟨q, rfl⟩
    · cases h
  · rintro ⟨q, rfl⟩
    rw [if_pos q]
theorem kAdd_iff {x y z : Int} : kAdd x y = some z ↔ (-2147483648 ≤ x + y ∧ x + y < 2147483648) ∧ x + y = z := kck_iff
theorem kSub_iff {x y z : Int} : kSub x y = some z ↔ (-2147483648 ≤ x - y ∧ x - y < 2147483648) ∧ x - y = z := kck_iff
theorem kMul_iff {x y z : Int} : kMul x y = some z ↔ (-2147483648 ≤ x * y ∧ x * y < 2147483648) ∧ x * y = z := kck_iff
theorem kDiv_iff {x y z : Int} : kDiv x y = some z ↔ (0 ≤ x ∧ 0 < y) ∧ x / y = z := by
  unfold kDiv
  constructor
  · intro h
    split at h
    · rename_i q; cases h; exact ⟨q, rfl⟩
    · cases h
  · rintro ⟨q, rfl⟩
    rw [if_pos q]
theorem kRem_iff {x y z : Int} : kRem x y = some z ↔ (0 ≤ x ∧ 0 < y) ∧ x % y = z := by
  unfold kRem
  constructor
  · intro h
    split at h
    · rename_i q; cases h; exact ⟨q, rfl⟩
    · cases h
  · rintro ⟨q, rfl⟩
    rw [if_pos q]
theorem kAnd_iff {x y z : Int} : kAnd x y = some z ↔ (0 ≤ x ∧ y = 1) ∧ x % 2 = z := by
  unfold kAnd
  constructor
  · intro h
    split at h
    · rename_i q; cases h; exact ⟨q, rfl⟩
    · cases h
  · rintro ⟨q, rfl⟩
    rw [if_pos q]
theorem kcmp_0 {x y : Int} : kcmp 0 x y = decide (x = y) := rfl
theorem kcmp_1 {x y : Int} : kcmp 1 x y = decide (x ≠ y) := rfl
theorem kcmp_2 {x y : Int} : kcmp 2 x y = decide (x < y) := rfl
theorem kcmp_3 {x y : Int} : kcmp 3 x y = decide (y ≤ x) := rfl
theorem kcmp_4 {x y : Int} : kcmp 4 x y = decide (y < x) := rfl
theorem kcmp_5 {x y : Int} : kcmp 5 x y = decide (x ≤ y) := rfl
theorem rN_rN : (rN = rN) = True := by simp
theorem rR_inj {v w : Option kV} : (rR v = rR w) ↔ v = w := by simp [rR]
theorem kset_at0 {v : kV} {t : kL} {w : Option kV} (hw : ∀ z, w ≠ some (.inr (.inr z))) (hv : ∀ z, v ≠ .inr (.inr z)) : kset (w :: t) 0 v = some (some v :: t) := by
  unfold kset
  rcases w with _ | z | o | z
  · rcases v with x | o | x
    · rfl
    · rfl
    · exact absurd rfl (hv x)
  · rcases v with x | o | x
    · rfl
    · rfl
    · exact absurd rfl (hv x)
  · rcases v with x | o | x
    · rfl
    · rfl
    · exact absurd rfl (hv x)
  · exact absurd rfl (hw z)
