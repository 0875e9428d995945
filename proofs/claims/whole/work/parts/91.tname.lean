/-! pure: reading: a type's first words, its NAME -/
section TName
variable {T te so va pl : Int → Int} {n N i b h t : Int} {S SR D : St}
/-- a type's fields as clear leaves them -/
def clrT (S S' : St) (x f p l m : Int) : Prop := (S' x 4 = f ∧ S' x 2 = p ∧ S' x 3 = l ∧ S' x 16 = m ∧ S' x 1 = 0 ∧ S' x 5 = S x 0 ∧ S' x 6 = 0) ∧ (S' x 9 = 0 ∧ S' x 11 = -1 ∧ S' x 12 = 0 ∧ S' x 14 = 0 ∧ S' x 17 = 0 ∧ S' x 18 = 0 ∧ S' x 19 = 0) ∧ ∀ a j, ¬ (a = x ∧ 1 ≤ j) → S' a j = S a j
theorem C_clear {x f p l m : Int} {k : St → Prop} (hk : ∀ S', clrT S S' x f p l m → k S') : wX6_clear S x f p l m k := by
  unfold wX6_clear wX6_clear_0
  intro S1 e1 S2 e2 S3 e3 S4 e4 S5 e5 S6 e6 S7 e7 S8 e8 S9 e9 S10 e10 S11 e11 S12 e12 S13 e13 S14 e14
  refine hk S14 ⟨⟨?_, ?_, ?_, ?_, ?_, ?_, ?_⟩, ⟨?_, ?_, ?_, ?_, ?_, ?_, ?_⟩, fun a j g => ?_⟩
  · rw [e14, e13, e12, e11, e10, e9, e8, e7, e6, e5, e4, e3, e2, e1]; simp [up]
  · rw [e14, e13, e12, e11, e10, e9, e8, e7, e6, e5, e4, e3, e2]; simp [up]
  · rw [e14, e13, e12, e11, e10, e9, e8, e7, e6, e5, e4, e3]; simp [up]
  · rw [e14, e13, e12, e11, e10, e9, e8, e7, e6, e5, e4]; simp [up]
  · rw [e14, e13, e12, e11, e10, e9, e8, e7, e6, e5]; simp [up]
  · rw [e14, e13, e12, e11, e10, e9, e8, e7, e6, e5, e4, e3, e2, e1]; simp [up]
  · rw [e14, e13, e12, e11, e10, e9, e8, e7]; simp [up]
  · rw [e14, e13, e12, e11, e10, e9, e8]; simp [up]
  · rw [e14, e13, e12, e11, e10, e9]; simp [up]
  · rw [e14, e13, e12, e11, e10]; simp [up]
  · rw [e14, e13, e12, e11]; simp [up]
  · rw [e14, e13, e12]; simp [up]
  · rw [e14, e13]; simp [up]
  · rw [e14]; simp [up]
  · rw [e14, up_n _ (by omega), e13, up_n _ (by omega), e12, up_n _ (by omega), e11, up_n _ (by omega), e10, up_n _ (by omega), e9, up_n _ (by omega), e8, up_n _ (by omega), e7, up_n _ (by omega), e6, up_n _ (by omega), e5, up_n _ (by omega), e4, up_n _ (by omega), e3, up_n _ (by omega), e2, up_n _ (by omega), e1, up_n _ (by omega)]
/-- a name that a type has already -/
def dup (D : St) (h t v : Int) : Prop := ∃ u, (0 ≤ u ∧ u < t) ∧ D 8 (24 * h + u) = v
theorem C_dup {k : Int → St → Prop} (hb : b = 2 ∨ b = 515) (ht : 0 ≤ t ∧ t ≤ 24) (e3 : S 1032 3 = b) (c1 : S b 1 = t) (nm : ∀ u, 0 ≤ u → u < t → S (ty b u) 1 = D 8 (24 * h + u)) (h1 : dup D h t (S 1032 6) → wX4_fail S 3 (fun x_25 S_25 => (x_25 = 0 ∨ x_25 = 1) ∧ k x_25 S_25)) (h0 : ¬ dup D h t (S 1032 6) → ∀ x_4 : Int, x_4 = S 1032 12 → isO 6 x_4 ∧ (∀ S_6 : St, S_6 = up S x_4 1 (S 1032 6) → ∀ x_7 : Int, x_7 = S_6 1032 3 → isO 2 x_7 ∧ (∀ S_11 : St, S_11 = up S_6 x_7 1 (w32 (S_6 x_7 1 + 1)) → ∀ S_13 : St, S_13 = up S_11 1032 11 1 → wX4_advance S_13 (fun S_14 => k 1 S_14)))) : wX4_readTypeName_15 S 0 k := by
  have ib := isO_b hb
  unfold wX4_readTypeName_15
  refine wlp_of (fun a : Int => (0 ≤ a ∧ a ≤ t) ∧ ∀ u, 0 ≤ u → u < a → ¬ D 8 (24 * h + u) = S 1032 6) (fun a => (t - a).toNat) ?_ ⟨⟨by decide, ht.1⟩, fun u u0 u1 => by omega⟩
  intro P a I hP
  obtain ⟨⟨i1, i2⟩, i3⟩ := I
  show wX4_readTypeName_15_b S a (fun b0 => P b0) k
  unfold wX4_readTypeName_15_b
  intro x ex
  rw [e3] at ex
  rw [ex, c1]
  refine ⟨ib, fun z => ?_, fun z y ey => ?_⟩
  · exact h0 (fun w => by obtain ⟨u, u0, u1⟩ := w; exact i3 u u0.1 (by omega) u1)
  · rw [e3] at ey
    rw [ey]
    refine ⟨ib, by omega, fun y2 ey2 => ?_⟩
    have ey2 : y2 = ty b a := ey2
    rw [ey2, nm a i1 z]
    refine ⟨fun ne y3 ey3 => ?_, fun e => h1 ⟨a, ⟨i1, z⟩, e⟩⟩
    rw [w32_eq (by omega) (by omega)] at ey3
    refine hP y3 ⟨⟨by omega, by omega⟩, fun u u0 u1 => ?_⟩ (by omega)
    by_cases c : u = a
    · rw [c]; exact ne
    · exact i3 u u0 (by omega)
theorem R_dup {f x2 : Int} {k : St → Prop} (hh : half01 h) (hD : D 0 10 = h) (ht : 0 ≤ t ∧ t < 24) (h1 : dup D h t (D 0 7) → wX8_fails D 3 (D 0 6) (fun S_46 => k S_46)) (h0 : ¬ dup D h t (D 0 7) → ∀ P, wX8_readType_106_b D t x2 f t P k) : wX8_readType_106 D t x2 f 0 k := by
  have h01 : 0 ≤ h ∧ h ≤ 1 := by unfold half01 at hh; omega
  unfold wX8_readType_106
  refine wlp_of (fun a : Int => (0 ≤ a ∧ a ≤ t) ∧ ∀ u, 0 ≤ u → u < a → ¬ D 8 (24 * h + u) = D 0 7) (fun a => (t - a).toNat) ?_ ⟨⟨by decide, ht.1⟩, fun u u0 u1 => by omega⟩
  intro P a I hP
  obtain ⟨⟨i1, i2⟩, i3⟩ := I
  show wX8_readType_106_b D t x2 f a (fun b0 => P b0) k
  by_cases z : a = t
  · rw [z] at i3 ⊢
    exact h0 (fun w => by obtain ⟨u, u0, u1⟩ := w; exact i3 u u0.1 u0.2 u1) _
  · unfold wX8_readType_106_b
    refine ⟨fun w => by omega, fun w => ?_⟩
    unfold wX8_t wX8_t_0
    rw [hD, w32_eq (x := 24 * h) (by omega) (by omega), w32_eq (x := 24 * h + a) (by omega) (by omega)]
    refine ⟨by omega, fun ne y ey => ?_, fun e => h1 ⟨a, ⟨i1, w⟩, e⟩⟩
    rw [w32_eq (by omega) (by omega)] at ey
    refine hP y ⟨⟨by omega, by omega⟩, fun u u0 u1 => ?_⟩ (by omega)
    by_cases c : u = a
    · rw [c]; exact ne
    · exact i3 u u0 (by omega)
/-- a type's fields as the reference sets them -/
def setR (D D' : St) (h t v f : Int) : Prop := (D' 8 (24 * h + t) = v ∧ D' 9 (24 * h + t) = D 0 46 ∧ D' 10 (24 * h + t) = D 0 47 ∧ D' 11 (24 * h + t) = f ∧ D' 12 (24 * h + t) = t ∧ D' 13 (24 * h + t) = 0) ∧ (D' 16 (24 * h + t) = 0 ∧ D' 19 (24 * h + t) = -13 ∧ D' 24 (24 * h + t) = D 4 h ∧ D' 25 (24 * h + t) = 0) ∧ ∀ a j, ¬ (((8 ≤ a ∧ a ≤ 13) ∨ a = 16 ∨ a = 19 ∨ a = 24 ∨ a = 25) ∧ j = 24 * h + t) → D' a j = D a j
/-- what the reference does behind a type's NAME -/
def RKn (D : St) (t f : Int) (k : St → Prop) : Prop := wX8_is D 60 (fun x_34 => (x_34 = 0 → wX8_readType_253 D t f k) ∧ (¬ x_34 = 0 → wX8_readVars D t (fun S_36 => wX8_readType_253 S_36 t f k)))
theorem R_set {f : Int} (hh : half01 h) (hD : D 0 10 = h) (ht : 0 ≤ t ∧ t < 24) : ∃ D', setR D D' h t (D 0 7) f ∧ ∀ (k : St → Prop) (P : Int → Prop), wX8_next D' (fun S_32 => RKn S_32 t f k) → wX8_readType_106_b D t (24 * h + t) f t P k := by
  have h01 : 0 ≤ h ∧ h ≤ 1 := by unfold half01 at hh; omega
  obtain ⟨c, hc⟩ : ∃ c, c = 24 * h + t := ⟨_, rfl⟩
  obtain ⟨D1, e1⟩ : ∃ x, x = up D 8 c (D 0 7) := ⟨_, rfl⟩
  obtain ⟨D2, e2⟩ : ∃ x, x = up D1 9 c (D1 0 46) := ⟨_, rfl⟩
  obtain ⟨D3, e3⟩ : ∃ x, x = up D2 10 c (D2 0 47) := ⟨_, rfl⟩
  obtain ⟨D4, e4⟩ : ∃ x, x = up D3 11 c f := ⟨_, rfl⟩
  obtain ⟨D5, e5⟩ : ∃ x, x = up D4 12 c t := ⟨_, rfl⟩
  obtain ⟨D6, e6⟩ : ∃ x, x = up D5 13 c 0 := ⟨_, rfl⟩
  obtain ⟨D7, e7⟩ : ∃ x, x = up D6 16 c 0 := ⟨_, rfl⟩
  obtain ⟨D8, e8⟩ : ∃ x, x = up D7 19 c (-13) := ⟨_, rfl⟩
  have d10 : D8 0 10 = h := by rw [e8, e7, e6, e5, e4, e3, e2, e1, ← hD]; simp [up]
  obtain ⟨D9, e9⟩ : ∃ x, x = up D8 24 c (D8 4 h) := ⟨_, rfl⟩
  obtain ⟨D10, e10⟩ : ∃ x, x = up D9 25 c 0 := ⟨_, rfl⟩
  refine ⟨D10, ?_, fun k P hk => ?_⟩
  · unfold setR
    rw [← hc]
    refine ⟨⟨?_, ?_, ?_, ?_, ?_, ?_⟩, ⟨?_, ?_, ?_, ?_⟩, fun a j g => ?_⟩
    · rw [e10, e9, e8, e7, e6, e5, e4, e3, e2, e1]; simp [up]
    · rw [e10, e9, e8, e7, e6, e5, e4, e3, e2, e1]; simp [up]
    · rw [e10, e9, e8, e7, e6, e5, e4, e3, e2, e1]; simp [up]
    · rw [e10, e9, e8, e7, e6, e5, e4]; simp [up]
    · rw [e10, e9, e8, e7, e6, e5]; simp [up]
    · rw [e10, e9, e8, e7, e6]; simp [up]
    · rw [e10, e9, e8, e7]; simp [up]
    · rw [e10, e9, e8]; simp [up]
    · rw [e10, e9, e8, e7, e6, e5, e4, e3, e2, e1]; simp [up]
    · rw [e10]; simp [up]
    · rw [e10, up_n _ (by omega), e9, up_n _ (by omega), e8, up_n _ (by omega), e7, up_n _ (by omega), e6, up_n _ (by omega), e5, up_n _ (by omega), e4, up_n _ (by omega), e3, up_n _ (by omega), e2, up_n _ (by omega), e1, up_n _ (by omega)]
  · unfold wX8_readType_106_b
    rw [← hc]
    refine ⟨fun _ => ⟨by omega, fun x1 q1 => ?_⟩, fun z => by omega⟩
    rw [← e1] at q1; rw [q1]
    refine ⟨by omega, fun x2 q2 => ?_⟩
    rw [← e2] at q2; rw [q2]
    refine ⟨by omega, fun x3 q3 => ?_⟩
    rw [← e3] at q3; rw [q3]
    refine ⟨by omega, fun x4 q4 => ?_⟩
    rw [← e4] at q4; rw [q4]
    refine ⟨by omega, fun x5 q5 => ?_⟩
    rw [← e5] at q5; rw [q5]
    refine ⟨by omega, fun x6 q6 => ?_⟩
    rw [← e6] at q6; rw [q6]
    refine ⟨by omega, fun x7 q7 => ?_⟩
    rw [← e7] at q7; rw [q7]
    refine ⟨by omega, fun x8 q8 => ?_⟩
    rw [← e8] at q8; rw [q8, d10]
    refine ⟨by omega, by omega, fun x9 q9 => ?_⟩
    rw [← e9] at q9; rw [q9]
    refine ⟨by omega, fun x10 q10 => ?_⟩
    rw [← e10] at q10; rw [q10]
    exact hk
end TName
