/-! pure: one METHOD at most; small methods of the reference on METHODS -/
theorem sou_symm {D : St} {h a b : Int} (g : sou D h a b) : sou D h b a := by
  obtain ⟨⟨g1, g2, g3⟩, g4⟩ := g
  exact ⟨⟨g1.symm, g2.symm, fun q q0 q1 => (g3 q q0 (by omega)).symm⟩, g4.symm⟩
theorem sou_trans {D : St} {h a b c : Int} (g : sou D h a b) (f : sou D h b c) : sou D h a c := by
  obtain ⟨⟨g1, g2, g3⟩, g4⟩ := g
  obtain ⟨⟨f1, f2, f3⟩, f4⟩ := f
  exact ⟨⟨g1.trans f1, g2.trans f2, fun q q0 q1 => (g3 q q0 q1).trans (f3 q q0 (by omega))⟩, g4.trans f4⟩
theorem mIn_uniq {D : St} {h t q r r' : Int} (hT : okT D h t) (g : mIn D h t q r) (f : mIn D h t q r') : r = r' := by
  obtain ⟨ht, hF, hB, hM, hBr⟩ := hT
  rcases g with ⟨g1, g2, g3, g4⟩ | ⟨g1, g2⟩
  · rcases f with ⟨f1, f2, f3, f4⟩ | ⟨f1, _⟩
    · rcases Int.lt_trichotomy r r' with c | c | c
      · exact absurd g3 (f4 r g1 c)
      · exact c
      · exact absurd f3 (g4 r' f1 c)
    · exact absurd g3 (f1 r g1 g2)
  · rcases f with ⟨f1, f2, f3, f4⟩ | ⟨_, f2⟩
    · exact absurd f3 (g1 r' f1 f2)
    · rcases g2 with ⟨a1, a2, a3, a4⟩ | ⟨a1, a2⟩
      · rcases f2 with ⟨b1, b2, b3, b4⟩ | ⟨b1, b2⟩
        · rcases Int.lt_trichotomy (r - 1000) (r' - 1000) with c | c | c
          · exact absurd a3 (b4 _ a1 c)
          · omega
          · exact absurd b3 (a4 _ b1 c)
        · exact absurd a3 (b2 _ a1 a2)
      · rcases f2 with ⟨b1, b2, b3, b4⟩ | ⟨b1, b2⟩
        · exact absurd b3 (a2 _ b1 b2)
        · omega
/-- what a METHOD's number stands for: its member, the one for which it was made, its form -/
def mem (D : St) (h x : Int) : Int := if x < 1000 then x else D 35 (7200 * h + (x - 1000))
def sby (D : St) (h x : Int) : Int := if x < 1000 then x else D 36 (7200 * h + (x - 1000))
def shp (D : St) (h x : Int) : Int := if x < 1000 then D 31 (120 * h + x) else 0
/-- the number of a METHOD of the court -/
def okX (D : St) (h x : Int) : Prop := (0 ≤ x ∧ x < 120 ∧ okM D h x) ∨ (1000 ≤ x ∧ x < 1000 + 2880 ∧ okM D h (D 35 (7200 * h + (x - 1000))) ∧ okM D h (D 36 (7200 * h + (x - 1000))))
theorem okX_mem {D : St} {h x : Int} (g : okX D h x) : okM D h (mem D h x) := by
  unfold mem
  rcases g with ⟨a, b, c⟩ | ⟨a, b, c, d⟩
  · rw [if_pos (by omega)]; exact c
  · rw [if_neg (by omega)]; exact c
theorem okX_sby {D : St} {h x : Int} (g : okX D h x) : okM D h (sby D h x) := by
  unfold sby
  rcases g with ⟨a, b, c⟩ | ⟨a, b, c, d⟩
  · rw [if_pos (by omega)]; exact c
  · rw [if_neg (by omega)]; exact d
theorem br_ix {h x : Int} (hh : half01 h) (h0 : 1000 ≤ x) (h1 : x < 3880) : w32 ((w32 (w32 (7200 * h) + x)) - 1000) = 7200 * h + (x - 1000) := by
  have hb01 : 0 ≤ h ∧ h ≤ 1 := by unfold half01 at hh; omega
  rw [w32_eq (x := 7200 * h) (by omega) (by omega), w32_eq (x := 7200 * h + x) (by omega) (by omega), w32_eq (by omega) (by omega)]
  omega
theorem R_soughtBy {S D : St} {x h : Int} {k : Int → Prop} (A : AgD S D) (hS : S 0 10 = h) (hh : half01 h) (hx : okX D h x) (hk : k (sby D h x)) : wX8_soughtBy S x k := by
  unfold wX8_soughtBy wX8_soughtBy_0
  have hb01 : 0 ≤ h ∧ h ≤ 1 := by unfold half01 at hh; omega
  unfold sby at hk
  have hu : x < 3880 := by rcases hx with ⟨a, b, c⟩ | ⟨a, b, c, d⟩ <;> omega
  refine ⟨fun c => ?_, fun c => ?_⟩
  · rw [if_neg (by omega)] at hk
    rw [hS, br_ix hh c hu, A 36 _ (by decide) (by decide)]
    exact ⟨by omega, hk⟩
  · rwa [if_pos c] at hk
theorem R_memberOf {S D : St} {x h : Int} {k : Int → Prop} (A : AgD S D) (hS : S 0 10 = h) (hh : half01 h) (hx : okX D h x) (hk : k (mem D h x)) : wX8_memberOf S x k := by
  unfold wX8_memberOf wX8_memberOf_0
  have hb01 : 0 ≤ h ∧ h ≤ 1 := by unfold half01 at hh; omega
  unfold mem at hk
  have hu : x < 3880 := by rcases hx with ⟨a, b, c⟩ | ⟨a, b, c, d⟩ <;> omega
  refine ⟨fun c => ?_, fun c => ?_⟩
  · rw [if_neg (by omega)] at hk
    rw [hS, br_ix hh c hu, A 35 _ (by decide) (by decide)]
    exact ⟨by omega, hk⟩
  · rwa [if_pos c] at hk
theorem R_shapeOf {S D : St} {x h : Int} {k : Int → Prop} (A : AgD S D) (hS : S 0 10 = h) (hh : half01 h) (hx : okX D h x) (hk : k (shp D h x)) : wX8_shapeOf S x k := by
  unfold wX8_shapeOf wX8_shapeOf_0
  have hb01 : 0 ≤ h ∧ h ≤ 1 := by unfold half01 at hh; omega
  unfold shp at hk
  refine ⟨fun c => ?_, fun c => ?_⟩
  · rwa [if_neg (by omega)] at hk
  · rw [if_pos c] at hk
    have hb : 0 ≤ x ∧ x < 120 := by rcases hx with ⟨a, b, _⟩ | ⟨a, b, _, _⟩ <;> omega
    refine R_m hS hh (by omega) ⟨by omega, ?_⟩
    rw [A 31 _ (by decide) (by decide)]
    exact hk
theorem R_accessOf {S D : St} {x h : Int} {k : Int → Prop} (A : AgD S D) (hS : S 0 10 = h) (hh : half01 h) (hx : okX D h x) (hk : k (D 30 (120 * h + mem D h x))) : wX8_accessOf S x k := by
  unfold wX8_accessOf wX8_accessOf_0
  have hb01 : 0 ≤ h ∧ h ≤ 1 := by unfold half01 at hh; omega
  have hm := (okX_mem hx).1
  refine R_memberOf A hS hh hx (R_m hS hh (by omega) ⟨by omega, ?_⟩)
  rw [A 30 _ (by decide) (by decide)]
  exact hk
theorem R_ownerOf {S D : St} {x h : Int} {k : Int → Prop} (A : AgD S D) (hS : S 0 10 = h) (hh : half01 h) (hx : okX D h x) (hk : k (D 28 (120 * h + mem D h x))) : wX8_ownerOf S x k := by
  unfold wX8_ownerOf wX8_ownerOf_0
  have hb01 : 0 ≤ h ∧ h ≤ 1 := by unfold half01 at hh; omega
  have hm := (okX_mem hx).1
  refine R_memberOf A hS hh hx (R_m hS hh (by omega) ⟨by omega, ?_⟩)
  rw [A 28 _ (by decide) (by decide)]
  exact hk
def plain (D : St) (h x : Int) : Prop := ¬ shp D h x = 1 ∧ ¬ D 30 (120 * h + mem D h x) = 0
theorem R_isPlain {S D : St} {x h : Int} {k : Int → Prop} (A : AgD S D) (hS : S 0 10 = h) (hh : half01 h) (hx : okX D h x) (h1 : plain D h x → k 1) (h0 : ¬ plain D h x → k 0) : wX8_isPlain S x k := by
  unfold wX8_isPlain wX8_isPlain_0
  refine R_shapeOf A hS hh hx ⟨fun c => h0 (fun g => g.1 c), fun c => R_accessOf A hS hh hx ⟨fun d => h0 (fun g => g.2 d), fun d => h1 ⟨c, d⟩⟩⟩
theorem R_toldAs {S D : St} {x h : Int} {k : Int → Prop} (A : AgD S D) (hS : S 0 10 = h) (hh : half01 h) (hx : okX D h x) (hk : k (if x < 1000 then x else 1000 + mem D h x)) : wX8_toldAs S x k := by
  unfold wX8_toldAs wX8_toldAs_0
  have hm := (okX_mem hx).1
  refine ⟨fun c => R_memberOf A hS hh hx ?_, fun c => ?_⟩
  · rw [if_neg (by omega)] at hk
    rw [w32_eq (by omega) (by omega)]
    exact hk
  · rwa [if_pos c] at hk
