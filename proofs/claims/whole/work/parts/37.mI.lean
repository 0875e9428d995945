/-! pure: the METHOD sought as a function -/
theorem least_int {P : Int → Prop} {a b : Int} (h : ∃ y, a ≤ y ∧ y < b ∧ P y) : ∃ y, a ≤ y ∧ y < b ∧ P y ∧ ∀ z, a ≤ z → z < y → ¬ P z := by
  obtain ⟨y, h1, h2, h3⟩ := h
  obtain ⟨n, ⟨h4, h5⟩, h6⟩ := pk_least (fun n : Nat => P (a + n) ∧ a + n < b) ⟨(y - a).toNat, by rw [show a + ((y - a).toNat : Int) = y by omega]; exact ⟨h3, h2⟩⟩
  refine ⟨a + n, by omega, h5, h4, fun z z0 z1 hz => ?_⟩
  refine h6 (z - a).toNat (by omega) ?_
  rw [show a + ((z - a).toNat : Int) = z by omega]
  exact ⟨hz, by omega⟩
theorem mIn_ex (D : St) (h t q : Int) : ∃ r, mIn D h t q r := by
  by_cases c : ∃ y, D 24 (24 * h + t) ≤ y ∧ y < D 24 (24 * h + t) + D 25 (24 * h + t) ∧ sou D h y q
  · obtain ⟨y, h1, h2, h3, h4⟩ := least_int c
    exact ⟨y, Or.inl ⟨h1, h2, h3, h4⟩⟩
  · have hno : ∀ y, D 24 (24 * h + t) ≤ y → y < D 24 (24 * h + t) + D 25 (24 * h + t) → ¬ sou D h y q := fun y y0 y1 g => c ⟨y, y0, y1, g⟩
    by_cases d : ∃ b, D 26 (24 * h + t) ≤ b ∧ b < D 26 (24 * h + t) + D 27 (24 * h + t) ∧ sou D h (D 36 (7200 * h + b)) q
    · obtain ⟨b, h1, h2, h3, h4⟩ := least_int (P := fun b => sou D h (D 36 (7200 * h + b)) q) d
      refine ⟨1000 + b, Or.inr ⟨hno, Or.inl ?_⟩⟩
      rw [show 1000 + b - 1000 = b by omega]
      exact ⟨h1, h2, h3, h4⟩
    · exact ⟨-1, Or.inr ⟨hno, Or.inr ⟨rfl, fun b b0 b1 g => d ⟨b, b0, b1, g⟩⟩⟩⟩
noncomputable def mI (D : St) (h t q : Int) : Int := Classical.choose (mIn_ex D h t q)
theorem mI_spec (D : St) (h t q : Int) : mIn D h t q (mI D h t q) := Classical.choose_spec (mIn_ex D h t q)
theorem mI_eq {D : St} {h t q r : Int} (hT : okT D h t) (g : mIn D h t q r) : r = mI D h t q := mIn_uniq hT g (mI_spec D h t q)
theorem R_mI {S D : St} {t q h : Int} {k : Int → Prop} (A : AgD S D) (hS : S 0 10 = h) (hh : half01 h) (hT : okT D h t) (hq : okM D h q) (hk : k (mI D h t q)) : wX8_methodIn S t q k :=
  R_methodIn A hS hh hT hq (fun r g => by rw [mI_eq hT g]; exact hk)
