/-! pure: reading: PACK items -/
def Pk (E : St) (b : Int) (D : St) (h np : Int) : Prop := 0 ≤ np ∧ E b 8 = np ∧ D 6 h = np ∧ (∀ x, 0 ≤ x → x < np → E 1033 x = D 7 (700 * h + (x + 1))) ∧ ∀ x y, 0 ≤ x → x < y → y < np → ¬ E 1033 x = E 1033 y
section Pack
variable {T te so va pl : Int → Int} {n N i b h np : Int} {S SR D : St}
theorem R_pk {X : Int} {k : St → Prop} (hh : half01 h) (hD : D 0 10 = h) (hnp : 0 ≤ np ∧ np ≤ 570) (h6 : D 6 h = np) (hX : X = 0 ∨ (1 ≤ X ∧ X ≤ np)) (hm : ∀ x, 1 ≤ x → x ≤ np → (D 7 (700 * h + x) = D 0 7 ↔ x = X)) (h1 : 1 ≤ X → wX8_readPackage_115 D X k) (h0 : X = 0 → ∀ S1, S1 = up (up D 6 h (np + 1)) 7 (700 * h + (np + 1)) (D 0 7) → wX8_readPackage_115 S1 (np + 1) k) : wX8_readPackage_21 D 0 1 k := by
  have h01 : 0 ≤ h ∧ h ≤ 1 := by unfold half01 at hh; omega
  unfold wX8_readPackage_21
  refine wlp_of (fun a : Int × Int => (1 ≤ a.2 ∧ a.2 ≤ np + 1) ∧ a.1 = (if X < a.2 then X else 0)) (fun a => (np + 1 - a.2).toNat) ?_ ⟨⟨by decide, by show (1 : Int) ≤ np + 1; omega⟩, ?_⟩
  · rintro P ⟨x1, x2⟩ ⟨⟨i1, i2⟩, i3⟩ hP
    dsimp only at i1 i2 i3
    show wX8_readPackage_21_b D x1 x2 (fun b0 b1 => P (b0, b1)) k
    unfold wX8_readPackage_21_b
    rw [hD, h6]
    refine ⟨by omega, fun z => ⟨fun nz => ?_, fun ez => ⟨by omega, by omega, fun S1 e1 => ?_⟩⟩, fun z => ?_⟩
    · have : x1 = X := by rw [i3]; split <;> omega
      rw [this]
      exact h1 (by omega)
    · have X0 : X = 0 := by
        rw [i3] at ez
        split at ez <;> omega
      rw [w32_eq (by omega) (by omega)] at e1
      have d10 : S1 0 10 = h := by rw [e1, up_n _ (by omega)]; exact hD
      have d6 : S1 6 h = np + 1 := by rw [e1, up_s]
      have d7 : S1 0 7 = D 0 7 := by rw [e1, up_n _ (by omega)]
      rw [d10, d6]
      refine ⟨by omega, fun x ex => ?_⟩
      rw [ex, w32_eq (x := 700 * h) (by omega) (by omega), w32_eq (by omega) (by omega)]
      refine ⟨by omega, fun S2 e2 => h0 X0 S2 ?_⟩
      rw [e2, d7, e1]
    · rw [w32_eq (x := 700 * h) (by omega) (by omega), w32_eq (x := 700 * h + x2) (by omega) (by omega)]
      have m := hm x2 i1 z
      refine ⟨by omega, fun ne y ey => ?_, fun e y ey => ?_⟩
      · rw [w32_eq (by omega) (by omega)] at ey
        refine hP (x1, y) ⟨⟨by show 1 ≤ y; omega, by show y ≤ np + 1; omega⟩, ?_⟩ (by show (np + 1 - y).toNat < (np + 1 - x2).toNat; omega)
        show x1 = if X < y then X else 0
        have : ¬ x2 = X := fun w => ne (m.mpr w)
        rw [i3]
        by_cases c : X < x2
        · rw [if_pos c, if_pos (by omega)]
        · rw [if_neg c, if_neg (by omega)]
      · rw [w32_eq (by omega) (by omega)] at ey
        refine hP (x2, y) ⟨⟨by show 1 ≤ y; omega, by show y ≤ np + 1; omega⟩, ?_⟩ (by show (np + 1 - y).toNat < (np + 1 - x2).toNat; omega)
        show x2 = if X < y then X else 0
        have := m.mp e
        rw [if_pos (by omega)]
        exact this
  · show (0 : Int) = if X < 1 then X else 0
    split <;> omega
theorem C_pk {X v : Int} {k : Int → St → Prop} (hb : b = 2 ∨ b = 515) (e3 : S 1032 3 = b) (hnp : 0 ≤ np ∧ np ≤ 570) (h8 : S b 8 = np) (hX : X = 0 ∨ (1 ≤ X ∧ X ≤ np)) (hm : ∀ x, 0 ≤ x → x < np → (S 1033 x = v ↔ x + 1 = X)) (h1 : 1 ≤ X → k X S) (h0 : X = 0 → ∀ S1, S1 = up (up S 1033 np v) b 8 (np + 1) → k (np + 1) S1) : wX4_packNumber S v k := by
  have ib := isO_b hb
  unfold wX4_packNumber wX4_packNumber_0 wX4_packNumber_2
  refine wlp_of (fun a : Int => (0 ≤ a ∧ a ≤ np) ∧ (X = 0 ∨ a < X)) (fun a => (np - a).toNat) ?_ ⟨by omega, by omega⟩
  intro P a I hP
  obtain ⟨⟨i1, i2⟩, i3⟩ := I
  show wX4_packNumber_2_b S v a (fun b0 => P b0) k
  unfold wX4_packNumber_2_b
  intro x ex
  rw [e3] at ex
  rw [ex, h8]
  refine ⟨ib, fun z y ey => ?_, fun z => ⟨by omega, fun ne y ey => ?_, fun e => ?_⟩⟩
  · rw [e3] at ey
    rw [ey, h8]
    refine ⟨ib, fun w => by omega, fun w y2 ey2 => ?_⟩
    rw [e3] at ey2
    rw [ey2, h8]
    refine ⟨ib, by omega, fun S1 e1 y3 ey3 => ?_⟩
    have q3 : S1 1032 3 = b := by rw [e1, up_n _ (by omega)]; exact e3
    rw [q3] at ey3
    have q8 : S1 b 8 = np := by rw [e1, up_n _ (by omega)]; exact h8
    rw [ey3, q8, w32_eq (by omega) (by omega)]
    refine ⟨ib, fun S2 e2 y4 ey4 => ?_⟩
    have p3 : S2 1032 3 = b := by rw [e2, up_n _ (by omega)]; exact q3
    rw [p3] at ey4
    have p8 : S2 b 8 = np + 1 := by rw [e2, up_s]
    rw [ey4, p8]
    exact ⟨ib, h0 (by omega) S2 (by rw [e2, e1])⟩
  · rw [w32_eq (by omega) (by omega)] at ey
    have m := hm a i1 z
    have : ¬ a + 1 = X := fun w => ne (m.mpr w)
    exact hP y ⟨by omega, by omega⟩ (by omega)
  · have m := (hm a i1 z).mp e
    rw [w32_eq (by omega) (by omega), m]
    exact h1 (by omega)
theorem Pk_X {v w : Int} (P : Pk S b D h np) (e : v = w) : ∃ X, (X = 0 ∨ (1 ≤ X ∧ X ≤ np)) ∧ (∀ x, 0 ≤ x → x < np → (S 1033 x = v ↔ x + 1 = X)) ∧ ∀ x, 1 ≤ x → x ≤ np → (D 7 (700 * h + x) = w ↔ x = X) := by
  obtain ⟨p0, p1, p2, p3, p4⟩ := P
  subst e
  have sh : ∀ X : Int, (∀ x, 0 ≤ x → x < np → (S 1033 x = v ↔ x + 1 = X)) → ∀ x, 1 ≤ x → x ≤ np → (D 7 (700 * h + x) = v ↔ x = X) := by
    intro X g x x0 x1
    have := p3 (x - 1) (by omega) (by omega)
    rw [show x - 1 + 1 = x by omega] at this
    rw [← this, g (x - 1) (by omega) (by omega), show x - 1 + 1 = x by omega]
  by_cases c : ∃ x, (0 ≤ x ∧ x < np) ∧ S 1033 x = v
  · obtain ⟨x, c1, c2⟩ := c
    have g : ∀ y, 0 ≤ y → y < np → (S 1033 y = v ↔ y + 1 = x + 1) := by
      intro y y0 y1
      refine ⟨fun z => ?_, fun z => ?_⟩
      · by_cases d : y < x
        · exact absurd (z.trans c2.symm) (p4 y x y0 d c1.2)
        · by_cases d2 : x < y
          · exact absurd (c2.trans z.symm) (p4 x y c1.1 d2 y1)
          · omega
      · rw [show y = x by omega]; exact c2
    exact ⟨x + 1, Or.inr (by omega), g, sh _ g⟩
  · have g : ∀ y, 0 ≤ y → y < np → (S 1033 y = v ↔ y + 1 = 0) := fun y y0 y1 => ⟨fun z => absurd ⟨y, ⟨y0, y1⟩, z⟩ c, fun z => by omega⟩
    exact ⟨0, Or.inl rfl, g, sh _ g⟩
theorem Pk.off {S' D' : St} (P : Pk S b D h np) (e8 : S' b 8 = S b 8) (d6 : D' 6 h = D 6 h) (e : S' 1033 = S 1033) (d : D' 7 = D 7) : Pk S' b D' h np := by
  unfold Pk
  rw [e8, d6, e, d]
  exact P
theorem Pk.add {v : Int} {S' D' : St} (h01 : 0 ≤ h) (P : Pk S b D h np) (nv : ∀ x, 0 ≤ x → x < np → ¬ S 1033 x = v) (e8 : S' b 8 = np + 1) (d6 : D' 6 h = np + 1) (ev : S' 1033 np = v) (dv : D' 7 (700 * h + (np + 1)) = v) (e : ∀ j, ¬ j = np → S' 1033 j = S 1033 j) (d : ∀ j, ¬ j = 700 * h + (np + 1) → D' 7 j = D 7 j) : Pk S' b D' h (np + 1) := by
  obtain ⟨p0, p1, p2, p3, p4⟩ := P
  refine ⟨by omega, e8, d6, fun x x0 x1 => ?_, fun x y x0 x1 y1 => ?_⟩
  · by_cases c : x = np
    · rw [c, ev, dv]
    · rw [e x c, d _ (by omega)]; exact p3 x x0 (by omega)
  · rw [e x (by omega)]
    by_cases c : y = np
    · rw [c, ev]; exact nv x x0 (by omega)
    · rw [e y c]; exact p4 x y x0 x1 (by omega)
end Pack
