/-! pure: one METHOD at most; small methods of the reference on METHODS -/
theorem sou_symm {D : St} {h a b : Int} (g : sou D h a b) : sou D h b a := by
  obtain ⟨⟨g1, g2, g3⟩, g4⟩ := g
  exact ⟨⟨g1.symm, g2.symm, fun q q0 q1 => (g3 q q0 (by omega)).symm⟩, g4.symm⟩
theorem sou_trans {D : St} {h a b c : Int} (g : sou D h a b) (f : sou D h b c) : sou D h a c := by
  obtain ⟨⟨g1, g2, g3⟩, g4⟩ := g
  obtain ⟨⟨f1, f2, f3⟩, f4⟩ := f
  exact ⟨⟨g1.trans f1, g2.trans f2, fun q q0 q1 => (g3 q q0 q1).trans (f3 q q0 (by omega))⟩, g4.trans f4⟩
theorem mIn_uniq {D : St} {h t q r r' : Int} (hT : okT D h t) (g : mIn D h t q r) (f : mIn D h t q r') : r = r' := by
  obtain ⟨ht, hF, hB, hM, hBr⟩ := hT
  rcases g with ⟨g1, g2, g3, g4⟩ | ⟨g1, g2⟩
  · rcases f with ⟨f1, f2, f3, f4⟩ | ⟨f1, _⟩
    · rcases Int.lt_trichotomy r r' with c | c | c
      · exact absurd g3 (f4 r g1 c)
      · exact c
      · exact absurd f3 (g4 r' f1 c)
    · exact absurd g3 (f1 r g1 g2)
  · rcases f with ⟨f1, f2, f3, f4⟩ | ⟨_, f2⟩
    · exact absurd f3 (g1 r' f1 f2)
    · rcases g2 with ⟨a1, a2, a3, a4⟩ | ⟨a1, a2⟩
      · rcases f2 with ⟨b1, b2, b3, b4⟩ | ⟨b1, b2⟩
        · rcases Int.lt_trichotomy (r - 1000) (r' - 1000) with c | c | c
          · exact absurd a3 (b4 _ a1 c)
          · omega
          · exact absurd b3 (a4 _ b1 c)
        · exact absurd a3 (b2 _ a1 a2)
      · rcases f2 with ⟨b1, b2, b3, b4⟩ | ⟨b1, b2⟩
        · exact absurd b3 (a2 _ b1 b2)
        · omega
/-- what a METHOD's number stands for: its member, the one for which it was made, its form -/
def mem (D : St) (h x : Int) : Int := if x < 1000 then x else D 35 (7200 * h + (x - 1000))
def sby (D : St) (h x : Int) : Int := if x < 1000 then x else D 36 (7200 * h + (x - 1000))
def shp (D : St) (h x : Int) : Int := if x < 1000 then D 31 (120 * h + x) else 0
/-- the number of a METHOD of the court -/
def okX (D : St) (h x : Int) : Prop := (0 ≤ x ∧ x < 120 ∧ okM D h x) ∨ (1000 ≤ x ∧ x < 1000 + 2880 ∧ okM D h (D 35 (7200 * h + (x - 1000))) ∧ okM D h (D 36 (7200 * h + (x - 1000))))
theorem okX_mem {D : St} {h x : Int} (g : okX D h x) : okM D h (mem D h x) := by
  unfold mem
  rcases g with ⟨a, b, c⟩ | ⟨a, b, c, d⟩
  · rw [if_pos (by omega)]; exact c
  · rw [if_neg (by omega)]; exact c
theorem okX_sby {D : St} {h x : Int} (g : okX D h x) : okM D h (sby D h x) := by
  unfold sby
  rcases g with ⟨a, b, c⟩ | ⟨a, b, c, d⟩
  · rw [if_pos (by omega)]; exact c
  · rw [if_neg (by omega)]; exact d
