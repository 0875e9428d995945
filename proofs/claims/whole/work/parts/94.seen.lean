/-! pure: reading: names of types and VARS -/
def dst (D : St) (h t : Int) : Prop := ∀ u v, 0 ≤ u → u < v → v ≤ t → ¬ D 8 (24 * h + u) = D 8 (24 * h + v)
/-- type r stands for the name v within type t -/
def seT (D : St) (h t v r : Int) : Prop := (0 ≤ r ∧ r ≤ t) ∧ D 8 (24 * h + r) = v ∧ (r = t ∨ D 10 (24 * h + r) = D 10 (24 * h + t) ∨ D 10 (24 * h + r) = 0)
section Seen
variable {E S D : St} {b h t v : Int}
theorem R_tsn {k : Int → Prop} (hh : half01 h) (hD : D 0 10 = h) (ht : 0 ≤ t ∧ t < 24) (ds : dst D h t) (h1 : ∀ r, seT D h t v r → k r) (h0 : (¬ ∃ r, seT D h t v r) → k (-1)) : wX8_seenType D v t k := by
  have h01 : 0 ≤ h ∧ h ≤ 1 := by unfold half01 at hh; omega
  unfold wX8_seenType wX8_seenType_0 wX8_seenType_6
  refine wlp_of (fun a : Int × Int => (0 ≤ a.2 ∧ a.2 ≤ t + 1) ∧ ((a.1 = -1 ∧ ∀ r, r < a.2 → ¬ seT D h t v r) ∨ (seT D h t v a.1 ∧ a.1 < a.2))) (fun a => (t + 1 - a.2).toNat) ?_ ⟨⟨Int.le_refl _, by show (0 : Int) ≤ t + 1; omega⟩, Or.inl ⟨rfl, fun r r0 w => by have := w.1.1; have r0 : r < 0 := r0; omega⟩⟩
  rintro P ⟨x4, x5⟩ ⟨⟨i1, i2⟩, i3⟩ hP
  dsimp only at i1 i2 i3
  show wX8_seenType_6_b D v t x4 x5 (fun b0 b1 => P (b0, b1)) k
  have no : (¬ seT D h t v x5) → ∀ y, y = w32 (x5 + 1) → x5 ≤ t → P (x4, y) := by
    intro z y ey x5t
    rw [w32_eq (by clear i3 h0 h1 hP; omega) (by clear i3 h0 h1 hP; omega)] at ey
    refine hP (x4, y) ⟨⟨by show 0 ≤ y; clear i3 h0 h1 hP; omega, by show y ≤ t + 1; clear i3 h0 h1 hP; omega⟩, ?_⟩ (by show (t + 1 - y).toNat < (t + 1 - x5).toNat; clear i3 h0 h1 hP; omega)
    show (x4 = -1 ∧ ∀ r, r < y → ¬ seT D h t v r) ∨ (seT D h t v x4 ∧ x4 < y)
    rcases i3 with ⟨a1, a2⟩ | ⟨a1, a2⟩
    · refine Or.inl ⟨a1, fun r r0 => ?_⟩
      by_cases c : r = x5
      · rw [c]; exact z
      · exact a2 r (by clear h0 h1 hP; omega)
    · exact Or.inr ⟨a1, by clear h0 h1 hP; omega⟩
  have yes : seT D h t v x5 → ∀ y, y = w32 (x5 + 1) → x5 ≤ t → P (x5, y) := by
    intro z y ey x5t
    rw [w32_eq (by clear i3 h0 h1 hP; omega) (by clear i3 h0 h1 hP; omega)] at ey
    refine hP (x5, y) ⟨⟨by show 0 ≤ y; clear i3 h0 h1 hP; omega, by show y ≤ t + 1; clear i3 h0 h1 hP; omega⟩, Or.inr ⟨z, by show x5 < y; clear i3 h0 h1 hP; omega⟩⟩ (by show (t + 1 - y).toNat < (t + 1 - x5).toNat; clear i3 h0 h1 hP; omega)
  have in61 : ∀ s0, x5 ≤ t → (¬ s0 = 0 ↔ (x5 = t ∨ D 10 (24 * h + x5) = D 10 (24 * h + t) ∨ D 10 (24 * h + x5) = 0)) → wX8_seenType_61 D v t x4 x5 s0 (fun b0 b1 => P (b0, b1)) k := by
    intro s0 x5t hs
    unfold wX8_seenType_61 wX8_t wX8_t_0
    rw [hD, w32_eq (x := 24 * h) (by clear i3 h0 h1 hP hs no yes; omega) (by clear i3 h0 h1 hP hs no yes; omega), w32_eq (x := 24 * h + x5) (by clear i3 h0 h1 hP hs no yes; omega) (by clear i3 h0 h1 hP hs no yes; omega)]
    refine ⟨by clear i3 h0 h1 hP hs no yes; omega, fun ne y ey => no (fun w => ne w.2.1) y ey x5t, fun e => ⟨fun s y ey => no (fun w => hs.mpr w.2.2 s) y ey x5t, fun s y ey => yes ⟨⟨i1, x5t⟩, e, hs.mp s⟩ y ey x5t⟩⟩
  unfold wX8_seenType_6_b
  refine ⟨fun z => ?_, fun z => ⟨fun e => ?_, fun ne => ?_⟩⟩
  · rcases i3 with ⟨a1, a2⟩ | ⟨a1, a2⟩
    · rw [a1]
      exact h0 (fun w => by obtain ⟨r, w⟩ := w; exact a2 r (by have := w.1.2; clear h0 h1 hP; omega) w)
    · exact h1 _ a1
  · unfold wX8_seenType_56
    exact in61 1 z ⟨fun _ => Or.inl e, fun _ => by decide⟩
  · unfold wX8_t wX8_t_0
    rw [hD, w32_eq (x := 24 * h) (by clear i3 h0 h1 hP no yes in61; omega) (by clear i3 h0 h1 hP no yes in61; omega), w32_eq (x := 24 * h + x5) (by clear i3 h0 h1 hP no yes in61; omega) (by clear i3 h0 h1 hP no yes in61; omega), w32_eq (x := 24 * h + t) (by clear i3 h0 h1 hP no yes in61; omega) (by clear i3 h0 h1 hP no yes in61; omega)]
    refine ⟨by clear i3 h0 h1 hP no yes in61; omega, by clear i3 h0 h1 hP no yes in61; omega, fun e => ?_, fun ne2 => ⟨by clear i3 h0 h1 hP no yes in61; omega, fun ne3 => in61 0 z ⟨fun w => absurd rfl w, fun w => ?_⟩, fun e3 => ?_⟩⟩
    · unfold wX8_seenType_56
      exact in61 1 z ⟨fun _ => Or.inr (Or.inl e), fun _ => by decide⟩
    · rcases w with w | w | w
      · exact absurd w ne
      · exact absurd w ne2
      · exact absurd w ne3
    · unfold wX8_seenType_56
      exact in61 1 z ⟨fun _ => Or.inr (Or.inr e3), fun _ => by decide⟩
theorem C_tsn {k : Int → Prop} (hb : b = 2 ∨ b = 515) (ht : 0 ≤ t ∧ t < 24) (e3 : S 1032 3 = b) (c1 : S b 1 = t + 1) (c12 : S 1032 12 = ty b t) (nm : ∀ u, 0 ≤ u → u ≤ t → S (ty b u) 1 = D 8 (24 * h + u) ∧ S (ty b u) 3 = D 10 (24 * h + u)) (ds : dst D h t) (h1 : ∀ r, seT D h t v r → k r) (h0 : (¬ ∃ r, seT D h t v r) → k (-1)) : wX4_typeSeen S v k := by
  have ib := isO_b hb
  unfold wX4_typeSeen wX4_typeSeen_0 wX4_typeSeen_2
  refine wlp_of (fun a : Int => (0 ≤ a ∧ a ≤ t + 1) ∧ ∀ u, 0 ≤ u → u < a → ¬ D 8 (24 * h + u) = v) (fun a => (t + 1 - a).toNat) ?_ ⟨⟨by decide, by clear h0 h1; omega⟩, fun u u0 u1 => by clear h0 h1; omega⟩
  intro P a I hP
  obtain ⟨⟨i1, i2⟩, i3⟩ := I
  show wX4_typeSeen_2_b S v a (fun b0 => P b0) k
  unfold wX4_typeSeen_2_b
  intro x ex
  rw [e3] at ex
  rw [ex, c1]
  refine ⟨ib, fun z => ?_, fun z y ey => ?_⟩
  · exact h0 (fun w => by obtain ⟨r, w⟩ := w; exact i3 r w.1.1 (by have := w.1.2; clear h0 h1 hP; omega) w.2.1)
  · rw [e3] at ey
    rw [ey]
    refine ⟨ib, by clear h0 h1 hP; omega, fun y2 ey2 => ?_⟩
    have ey2 : y2 = ty b a := ey2
    have q := nm a i1 (by clear h0 h1 hP; omega)
    rw [ey2, q.1, q.2]
    refine ⟨fun ne y3 ey3 => ?_, fun e => ⟨fun l0 => h1 a ⟨⟨i1, by clear h0 h1 hP; omega⟩, e, Or.inr (Or.inr l0)⟩, fun nl y3 ey3 => ?_⟩⟩
    · rw [w32_eq (by clear h0 h1 hP; omega) (by clear h0 h1 hP; omega)] at ey3
      refine hP y3 ⟨⟨by clear h0 h1 hP; omega, by clear h0 h1 hP; omega⟩, fun u u0 u1 => ?_⟩ (by clear h0 h1 hP; omega)
      by_cases c : u = a
      · rw [c]; exact ne
      · exact i3 u u0 (by clear h0 h1 hP; omega)
    · rw [c12] at ey3
      rw [ey3, (nm t ht.1 (Int.le_refl _)).2]
      refine ⟨isO_t hb ht, fun nl2 => h0 (fun w => ?_), fun l2 => h1 a ⟨⟨i1, by clear h0 h1 hP; omega⟩, e, Or.inr (Or.inl l2)⟩⟩
      obtain ⟨r, w⟩ := w
      have ra : r = a := by
        by_cases c : r < a
        · exact absurd (w.2.1.trans e.symm) (ds r a w.1.1 c (by clear h0 h1 hP; omega))
        · by_cases c2 : a < r
          · exact absurd (e.trans w.2.1.symm) (ds a r i1 c2 w.1.2)
          · clear h0 h1 hP; omega
      rw [ra] at w
      rcases w.2.2 with g | g | g
      · rw [g] at nl2; exact nl2 rfl
      · exact nl2 g
      · exact nl g
end Seen
