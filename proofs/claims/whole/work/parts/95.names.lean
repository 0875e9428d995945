/-! pure: reading: names of VARS; what a NAME stands for as a kind -/
def vnm (D : St) (h t v r : Int) : Prop := (0 ≤ r ∧ r < D 13 (24 * h + t)) ∧ D 14 (2 * (24 * h + t) + r) = v
def dsv (D : St) (h t : Int) : Prop := ∀ k l, 0 ≤ k → k < l → l < D 13 (24 * h + t) → ¬ D 14 (2 * (24 * h + t) + k) = D 14 (2 * (24 * h + t) + l)
def kdN (D : St) (h t v c : Int) : Prop := vnm D h t v (c - 100) ∨ ((∀ r, ¬ vnm D h t v r) ∧ seT D h t v c)
theorem kdN_pos {D : St} {h t v c : Int} (g : kdN D h t v c) : 0 ≤ c := by
  rcases g with g | g
  · have := g.1.1; omega
  · exact g.2.1.1
theorem kdN_aOK {D : St} {h t v c : Int} (g : kdN D h t v c) : aOK D h t c := by
  rcases g with g | g
  · exact Or.inr ⟨by have := g.1.1; omega, g.1.2⟩
  · exact Or.inl g.2.1
section Names
variable {E S D : St} {b h t v : Int}
theorem C_vn {k : Int → Prop} (v2 : 0 ≤ D 13 (24 * h + t) ∧ D 13 (24 * h + t) ≤ 2) (c6 : S (ty b t) 6 = D 13 (24 * h + t)) (nm : ∀ u, 0 ≤ u → u < D 13 (24 * h + t) → S (ty b t + 1) u = D 14 (2 * (24 * h + t) + u)) (h1 : ∀ r, vnm D h t v r → k r) (h0 : (∀ r, ¬ vnm D h t v r) → k (-1)) : wX6_varNamed S (ty b t) v k := by
  unfold wX6_varNamed wX6_varNamed_0 wX6_varNamed_2
  refine wlp_of (fun a : Int => (0 ≤ a ∧ a ≤ D 13 (24 * h + t)) ∧ ∀ u, u < a → ¬ vnm D h t v u) (fun a => (D 13 (24 * h + t) - a).toNat) ?_ ⟨⟨by decide, v2.1⟩, fun u u0 w => by have := w.1.1; clear h0 h1; omega⟩
  intro P a I hP
  obtain ⟨⟨i1, i2⟩, i3⟩ := I
  show wX6_varNamed_2_b S (ty b t) v a (fun b0 => P b0) k
  unfold wX6_varNamed_2_b
  rw [c6]
  refine ⟨fun z => h0 (fun r w => i3 r (by have := w.1.2; clear h0 h1 hP i3; omega) w), fun z => ⟨by clear h0 h1 hP i3; omega, ?_⟩⟩
  rw [nm a i1 z]
  refine ⟨fun ne y ey => ?_, fun e => h1 a ⟨⟨i1, z⟩, e⟩⟩
  rw [w32_eq (by clear h0 h1 hP i3; omega) (by clear h0 h1 hP i3; omega)] at ey
  refine hP y ⟨⟨by clear h0 h1 hP i3; omega, by clear h0 h1 hP i3; omega⟩, fun u u0 => ?_⟩ (by clear h0 h1 hP i3; omega)
  by_cases c : u = a
  · rw [c]; exact fun w => ne w.2
  · exact i3 u (by clear h0 h1 hP i3; omega)
theorem R_vn {k : Int → Prop} (hh : half01 h) (hD : D 0 10 = h) (ht : 0 ≤ t ∧ t < 24) (v2 : 0 ≤ D 13 (24 * h + t) ∧ D 13 (24 * h + t) ≤ 2) (ds : dsv D h t) (h1 : ∀ r, vnm D h t v r → k r) (h0 : (∀ r, ¬ vnm D h t v r) → k (-1)) : wX8_varNamed D v t k := by
  have h01 : 0 ≤ h ∧ h ≤ 1 := by unfold half01 at hh; omega
  unfold wX8_varNamed wX8_varNamed_0 wX8_varNamed_6
  refine wlp_of (fun a : Int × Int => (0 ≤ a.2 ∧ a.2 ≤ D 13 (24 * h + t)) ∧ ((a.1 = -1 ∧ ∀ r, r < a.2 → ¬ vnm D h t v r) ∨ (vnm D h t v a.1 ∧ a.1 < a.2))) (fun a => (D 13 (24 * h + t) - a.2).toNat) ?_ ⟨⟨Int.le_refl _, v2.1⟩, Or.inl ⟨rfl, fun r r0 w => by have := w.1.1; have r0 : r < 0 := r0; clear h0 h1; omega⟩⟩
  rintro P ⟨x4, x5⟩ ⟨⟨i1, i2⟩, i3⟩ hP
  dsimp only at i1 i2 i3
  show wX8_varNamed_6_b D v t x4 x5 (fun b0 b1 => P (b0, b1)) k
  unfold wX8_varNamed_6_b wX8_t wX8_t_0
  rw [hD, w32_eq (x := 24 * h) (by clear i3 h0 h1 hP; omega) (by clear i3 h0 h1 hP; omega), w32_eq (x := 24 * h + t) (by clear i3 h0 h1 hP; omega) (by clear i3 h0 h1 hP; omega)]
  refine ⟨by clear i3 h0 h1 hP; omega, fun z => ?_, fun z => ?_⟩
  · rcases i3 with ⟨a1, a2⟩ | ⟨a1, a2⟩
    · rw [a1]
      exact h0 (fun r w => a2 r (by have := w.1.2; clear h0 h1 hP a2; omega) w)
    · exact h1 _ a1
  · dsimp only
    rw [w32_eq (x := 2 * (24 * h + t)) (by clear i3 h0 h1 hP; omega) (by clear i3 h0 h1 hP; omega), w32_eq (x := 2 * (24 * h + t) + x5) (by clear i3 h0 h1 hP; omega) (by clear i3 h0 h1 hP; omega)]
    refine ⟨by clear i3 h0 h1 hP; omega, fun ne y ey => ?_, fun e y ey => ?_⟩
    · rw [w32_eq (by clear i3 h0 h1 hP; omega) (by clear i3 h0 h1 hP; omega)] at ey
      refine hP (x4, y) ⟨⟨by show 0 ≤ y; clear i3 h0 h1 hP; omega, by show y ≤ D 13 (24 * h + t); clear i3 h0 h1 hP; omega⟩, ?_⟩ (by show (D 13 (24 * h + t) - y).toNat < (D 13 (24 * h + t) - x5).toNat; clear i3 h0 h1 hP; omega)
      show (x4 = -1 ∧ ∀ r, r < y → ¬ vnm D h t v r) ∨ (vnm D h t v x4 ∧ x4 < y)
      rcases i3 with ⟨a1, a2⟩ | ⟨a1, a2⟩
      · refine Or.inl ⟨a1, fun r r0 => ?_⟩
        by_cases c : r = x5
        · rw [c]; exact fun w => ne w.2
        · exact a2 r (by clear h0 h1 hP a2; omega)
      · exact Or.inr ⟨a1, by clear h0 h1 hP; omega⟩
    · rw [w32_eq (by clear i3 h0 h1 hP; omega) (by clear i3 h0 h1 hP; omega)] at ey
      exact hP (x5, y) ⟨⟨by show 0 ≤ y; clear i3 h0 h1 hP; omega, by show y ≤ D 13 (24 * h + t); clear i3 h0 h1 hP; omega⟩, Or.inr ⟨⟨⟨i1, z⟩, e⟩, by show x5 < y; clear i3 h0 h1 hP; omega⟩⟩ (by show (D 13 (24 * h + t) - y).toNat < (D 13 (24 * h + t) - x5).toNat; clear i3 h0 h1 hP; omega)
theorem C_kn {k : Int → Prop} (hb : b = 2 ∨ b = 515) (ht : 0 ≤ t ∧ t < 24) (e3 : S 1032 3 = b) (c1 : S b 1 = t + 1) (c12 : S 1032 12 = ty b t) (nm : ∀ u, 0 ≤ u → u ≤ t → S (ty b u) 1 = D 8 (24 * h + u) ∧ S (ty b u) 3 = D 10 (24 * h + u)) (ds : dst D h t) (v2 : 0 ≤ D 13 (24 * h + t) ∧ D 13 (24 * h + t) ≤ 2) (c6 : S (ty b t) 6 = D 13 (24 * h + t)) (nv : ∀ u, 0 ≤ u → u < D 13 (24 * h + t) → S (ty b t + 1) u = D 14 (2 * (24 * h + t) + u)) (h1 : ∀ c, kdN D h t v c → k c) (h0 : (∀ c, ¬ kdN D h t v c) → k (-9)) : wX4_kindNamed S v k := by
  unfold wX4_kindNamed wX4_kindNamed_0
  intro x ex
  rw [ex, c12]
  refine ⟨isO_t hb ht, C_vn v2 c6 nv (fun r w => ⟨fun z => ?_, fun _ => ?_⟩) (fun w => ⟨fun _ => ?_, fun z => absurd rfl z⟩)⟩
  · have := w.1.1; clear h0 h1; omega
  · have := w.1
    rw [w32_eq (by clear h0 h1; omega) (by clear h0 h1; omega)]
    exact h1 _ (Or.inl (by rw [show 100 + r - 100 = r by omega]; exact w))
  · refine C_tsn hb ht e3 c1 c12 nm ds (fun r g => ⟨fun _ => h1 r (Or.inr ⟨w, g⟩), fun z => ?_⟩) (fun g => ⟨fun z => absurd rfl z, fun _ => h0 (fun c q => ?_)⟩)
    · have := g.1.1; clear h0 h1; omega
    · rcases q with q | q
      · exact w _ q
      · exact g ⟨c, q.2⟩
theorem R_kn {k : Int → Prop} (hh : half01 h) (hD : D 0 10 = h) (ht : 0 ≤ t ∧ t < 24) (ds : dst D h t) (v2 : 0 ≤ D 13 (24 * h + t) ∧ D 13 (24 * h + t) ≤ 2) (dv : dsv D h t) (h1 : ∀ c, kdN D h t v c → k c) (h0 : (∀ c, ¬ kdN D h t v c) → k (-1)) : wX8_varNamed D v t (fun x_5 => (x_5 < 0 → wX8_seenType D v t (fun x_8 => k x_8)) ∧ (0 ≤ x_5 → k (w32 (100 + x_5)))) := by
  refine R_vn hh hD ht v2 dv (fun r w => ⟨fun z => ?_, fun _ => ?_⟩) (fun w => ⟨fun _ => ?_, fun z => absurd z (by decide)⟩)
  · have := w.1.1; clear h0 h1; omega
  · have := w.1
    rw [w32_eq (by clear h0 h1; omega) (by clear h0 h1; omega)]
    exact h1 _ (Or.inl (by rw [show 100 + r - 100 = r by omega]; exact w))
  · refine R_tsn hh hD ht ds (fun r g => h1 r (Or.inr ⟨w, g⟩)) (fun g => h0 (fun c q => ?_))
    rcases q with q | q
    · exact w _ q
    · exact g ⟨c, q.2⟩
/-- what a NAME stands for is one thing -/
theorem seT_one {r s : Int} (ds : dst D h t) (a : seT D h t v r) (c : seT D h t v s) : r = s := by
  by_cases c1 : r < s
  · exact absurd (a.2.1.trans c.2.1.symm) (ds r s a.1.1 c1 c.1.2)
  · by_cases c2 : s < r
    · exact absurd (c.2.1.trans a.2.1.symm) (ds s r c.1.1 c2 a.1.2)
    · omega
theorem vnm_one {r s : Int} (ds : dsv D h t) (a : vnm D h t v r) (c : vnm D h t v s) : r = s := by
  by_cases c1 : r < s
  · exact absurd (a.2.trans c.2.symm) (ds r s a.1.1 c1 c.1.2)
  · by_cases c2 : s < r
    · exact absurd (c.2.trans a.2.symm) (ds s r c.1.1 c2 a.1.2)
    · omega
theorem kdN_one {r s : Int} (ds : dst D h t) (dv : dsv D h t) (a : kdN D h t v r) (c : kdN D h t v s) : r = s := by
  rcases a with a | a
  · rcases c with c | c
    · have := vnm_one dv a c; omega
    · exact absurd a (c.1 _)
  · rcases c with c | c
    · exact absurd c (a.1 _)
    · exact seT_one ds a.2 c.2
end Names
