/-! the start: two new objects stand alike -/
def C0 : St := fun a j => if a = 0 ∧ j = 4 then 2 else if a = 0 ∧ j = 5 then 515 else if a = 1032 ∧ j = 3 then 515 else if a = 1032 ∧ j = 12 then 521 else if a = 1032 ∧ j = 14 then 665 else if a = 1034 ∧ j = 0 then 515 else if a = 1034 ∧ j = 1 then 521 else if a = 1037 ∧ j = 0 then 2 else if j = 0 ∧ 8 ≤ a ∧ a < 152 ∧ (a - 8) % 6 = 0 then (a - 8) / 6 else if j = 0 ∧ 521 ≤ a ∧ a < 665 ∧ (a - 521) % 6 = 0 then (a - 521) / 6 else 0
def R0 : St := fun a j => if a = 2 ∧ 0 ≤ j ∧ j < 14 then wv.getD j.toNat 0 else 0
theorem R0_0 {a j : Int} (h : ¬ a = 2) : R0 a j = 0 := by
  unfold R0
  rw [if_neg (fun w => h w.1)]
theorem C0_0 {a j : Int} (h1 : ¬ (a = 0 ∧ (j = 4 ∨ j = 5))) (h2 : ¬ (a = 1032 ∧ (j = 3 ∨ j = 12 ∨ j = 14))) (h3 : ¬ (a = 1034 ∧ (j = 0 ∨ j = 1))) (h4 : ¬ (a = 1037 ∧ j = 0)) (h5 : ¬ (j = 0 ∧ ((8 ≤ a ∧ a < 152) ∨ (521 ≤ a ∧ a < 665)))) : C0 a j = 0 := by
  unfold C0
  rw [if_neg (by omega), if_neg (by omega), if_neg (by omega), if_neg (by omega), if_neg (by omega), if_neg (by omega), if_neg (by omega), if_neg (by omega), if_neg (by omega), if_neg (by omega)]
theorem C0_n2 {t : Int} (h : 0 ≤ t ∧ t < 24) : C0 (ty 2 t) 0 = t := by
  unfold C0 ty
  rw [if_neg (by omega), if_neg (by omega), if_neg (by omega), if_neg (by omega), if_neg (by omega), if_neg (by omega), if_neg (by omega), if_neg (by omega), if_pos (by omega)]
  omega
theorem C0_n5 {t : Int} (h : 0 ≤ t ∧ t < 24) : C0 (ty 515 t) 0 = t := by
  unfold C0 ty
  rw [if_neg (by omega), if_neg (by omega), if_neg (by omega), if_neg (by omega), if_neg (by omega), if_neg (by omega), if_neg (by omega), if_neg (by omega), if_neg (by omega), if_pos (by omega)]
  omega
theorem Sim0 : Sim C0 R0 := by
  have z : ∀ a j : Int, ¬ a = 2 → R0 a j = 0 := fun a j h => R0_0 h
  have rel : Rel C0 2 R0 0 := by
    refine ⟨⟨?_, ?_, ?_, ?_⟩, fun t t0 t1 => ?_, fun m m0 m1 => ?_, fun m q m0 m1 => ?_, fun i i0 i1 => ?_, fun m q m0 m1 => ?_⟩
    · rw [z 3 0 (by decide), C0_0 (by omega) (by omega) (by omega) (by omega) (by omega)]
    · rw [z 4 0 (by decide), C0_0 (by omega) (by omega) (by omega) (by omega) (by omega)]
    · rw [z 5 0 (by decide), C0_0 (by omega) (by omega) (by omega) (by omega) (by omega)]
    · rw [z 6 0 (by decide), C0_0 (by omega) (by omega) (by omega) (by omega) (by omega)]
    · rw [z 3 0 (by decide)] at t1; omega
    · rw [z 4 0 (by decide)] at m1; omega
    · rw [z 4 0 (by decide)] at m1; omega
    · rw [z 5 0 (by decide)] at i1; omega
    · rw [z 4 0 (by decide)] at m1; omega
  have oka : okA R0 0 := by
    refine ⟨⟨⟨?_, fun t t0 t1 => ?_⟩, fun t t0 t1 => ?_⟩, ?_, ?_, ?_, fun m m0 m1 => ?_, fun t t0 t1 => ?_⟩
    · rw [z 3 0 (by decide)]; decide
    · rw [z 3 0 (by decide)] at t1; omega
    · rw [z 3 0 (by decide)] at t1; omega
    · rw [z 3 0 (by decide)]; decide
    · rw [z 4 0 (by decide)]; decide
    · rw [z 5 0 (by decide)]; decide
    · rw [z 4 0 (by decide)] at m1; omega
    · rw [z 3 0 (by decide)] at t1; omega
  have okk : okK R0 0 := by
    refine ⟨fun m q m0 m1 => ?_, fun m q m0 m1 => ?_⟩
    · rw [z 4 0 (by decide)] at m1; omega
    · rw [z 4 0 (by decide)] at m1; omega
  refine ⟨C0, R0, 2, 0, ⟨?_, ?_, fun j j0 j1 => ?_⟩, ?_, ?_, ⟨fun _ _ _ _ => rfl, rfl, Or.inl rfl, Or.inl rfl, rel, oka⟩, ⟨fun _ _ _ _ => rfl, z 0 11 (by decide), Or.inl rfl, oka⟩, okk, Or.inl ⟨rfl, rfl⟩, fun t t0 t1 => ⟨C0_n2 ⟨t0, t1⟩, C0_n5 ⟨t0, t1⟩⟩, fun i hi => ?_, fun j j0 j1 => ?_, fun j => ?_, fun u u0 u1 => ?_⟩
  · rw [z 0 1 (by decide), C0_0 (by omega) (by omega) (by omega) (by omega) (by omega)]
  · rw [z 0 1 (by decide)]; decide
  · rw [z 0 1 (by decide)] at j1; omega
  · rw [z 0 2 (by decide), C0_0 (by omega) (by omega) (by omega) (by omega) (by omega)]
  · rw [z 0 59 (by decide), C0_0 (by omega) (by omega) (by omega) (by omega) (by omega)]
  · unfold R0
    rw [if_pos (by omega)]
    rfl
  · rw [z 0 1 (by decide)] at j1; omega
  · rw [z 33 j (by decide)]; decide
  · rw [z 3 0 (by decide)] at u1; omega
