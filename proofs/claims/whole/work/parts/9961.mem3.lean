/-! pure: reading: a member's form; defaults, both together -/
section Mem3
variable {T te so va pl : Int → Int} {n N i b h t m fc a f x1 x2 : Int} {S D S' D' S1 D1 : St}
theorem J_form {k : Int → St → Prop} (hb : b = 2 ∨ b = 515) (ht : 0 ≤ t ∧ t < 24) (K : Tks T n N te so va pl) (C : CTk N so va pl S i) (R : RTk T n te so va pl D i) (M : Mb S b D h t m) (ef : D 11 (24 * h + t) = f) (ow : S (me b m) 2 = 0 ↔ a = 0)
    (h1 : ∀ S' D' j s x2, i ≤ j → CTk N so va pl S' j → RTk T n te so va pl D' j → (s = -1 ∨ s = 1 ∨ s = 2 ∨ s = 3) → ((s < 0 ∧ x2 = 0 ∧ S' (me b m) 3 = S (me b m) 3) ∨ (0 ≤ s ∧ x2 = 1 ∧ S' (me b m) 3 = s)) → (∀ z j, ¬ (z = 1032 ∧ 4 ≤ j ∧ j ≤ 6) → ¬ (z = me b m ∧ j = 3) → S' z j = S z j) → offN D D' → (s = 2 → ¬ a = 0) → (∀ k' : Int → St → Prop, k' s D' → wX8_readShape D f a k') → wX4_readMember_131 S' x1 x2 k)
    (h0 : ∀ S' D' s, FO S D b h S' D' → (∀ k' : Int → St → Prop, k' s D' → wX8_readShape D f a k') → k 0 S') : wX4_readMember_82 S x1 k := by
  have N4 := K.1.2
  have t1 := K.2.2.1 i C.1.1 C.1.2
  have hm := M.2.2.1
  have f02 := M.2.2.2.2.2.2.2
  rw [ef] at f02
  have ix := isO_m hb hm
  have run : ∀ y, (so i = 209 ∧ y = 1) ∨ (so i = 210 ∧ y = 2) ∨ (so i = 211 ∧ y = 3) ∨ ((¬ so i = 209 ∧ ¬ so i = 210 ∧ ¬ so i = 211) ∧ y = -1) → ∀ k' : Int → St → Prop, wX8_readShape_40 D f a y k' → wX8_readShape D f a k' := by
    intro y hy k' hk
    unfold wX8_readShape wX8_readShape_0
    refine R_isS R t1.2.1 (x := 209) (by unfold srtOK; omega) (by decide) (fun w => ⟨fun z => absurd z (by decide), fun _ => ?_⟩) (fun w => ⟨fun _ => R_isS R t1.2.1 (x := 210) (by unfold srtOK; omega) (by decide) (fun w2 => ⟨fun z => absurd z (by decide), fun _ => ?_⟩) (fun w2 => ⟨fun _ => R_isS R t1.2.1 (x := 211) (by unfold srtOK; omega) (by decide) (fun w3 => ⟨fun z => absurd z (by decide), fun _ => ?_⟩) (fun w3 => ⟨fun _ => ?_, fun z => absurd rfl z⟩), fun z => absurd rfl z⟩), fun z => absurd rfl z⟩)
    · have : y = 1 := by omega
      rw [← this]; exact hk
    · have : y = 2 := by omega
      rw [← this]; exact hk
    · have : y = 3 := by omega
      rw [← this]; exact hk
    · have : y = -1 := by omega
      rw [← this]; exact hk
  have put : ∀ y, (so i = 209 ∧ y = 1) ∨ (so i = 210 ∧ y = 2) ∨ (so i = 211 ∧ y = 3) → ¬ ((y = 3 ∧ ¬ f = 2) ∨ (y = 2 ∧ (f = 0 ∨ a = 0))) → wX4_readForm_109 S (me b m) y (fun x_2 S_2 => (¬ x_2 = 0 → wX4_readMember_131 S_2 x1 1 k) ∧ (x_2 = 0 → k 0 S_2)) := by
    intro y hy nb
    unfold wX4_readForm_109
    intro S1 e1
    have o1 : ∀ z j, ¬ (z = me b m ∧ j = 3) → S1 z j = S z j := fun z j g => by rw [e1, up_n _ (by omega)]
    have f1 : fM S S1 b m := fun z j g1 g2 => o1 z j (by omega)
    have C1 : CTk N so va pl S1 i := C.off (fun z j g => o1 z j (by unfold me; omega))
    have M1 := M.tr hb ht f1 (D' := D) (fun _ _ _ _ _ => rfl)
    have run2 : ∀ (D2 : St), (∀ k' : St → Prop, k' D2 → wX8_past D k') → ∀ k' : Int → St → Prop, k' y D2 → wX8_readShape D f a k' := by
      intro D2 n2 k' hk
      refine run y (by omega) k' ?_
      have e59 : wX8_readShape_73 D y k' := by
        unfold wX8_readShape_73
        exact ⟨fun z => by omega, fun _ => n2 _ hk⟩
      have e51 : wX8_readShape_51 D f a y k' := by
        unfold wX8_readShape_51
        exact ⟨fun _ => e59, fun z => ⟨fun z2 => absurd (Or.inr ⟨z, Or.inl z2⟩) nb, fun z2 => ⟨fun _ => e59, fun z3 => absurd (Or.inr ⟨z, Or.inr z3⟩) nb⟩⟩⟩
      unfold wX8_readShape_40
      exact ⟨fun _ => e51, fun z => ⟨fun z2 => absurd (Or.inl ⟨z, by omega⟩) nb, fun z2 => e51⟩⟩
    refine J_past hb ht K C1 R M1 (by omega) (fun _ _ S2 D2 a2 C2 o2 r2 n2 => ⟨Or.inr rfl, fun _ => ?_, fun z => absurd z (by decide)⟩) (fun S2 D2 g2 w2 n2 => ⟨Or.inl rfl, fun z => absurd rfl z, fun _ => ?_⟩)
    · refine h1 S2 D2 (i + 1) y 1 (by omega) C2 r2 (by omega) (Or.inr ⟨by omega, rfl, ?_⟩) (fun z j g1 g2 => ?_) o2 (fun z => by omega) (run2 D2 n2)
      · rw [a2 _ _ (by unfold me; omega), e1, up_s]
      · rw [a2 _ _ g1, o1 _ _ g2]
    · exact h0 S2 D2 y (FO_mk3 hb (by decide) (offFam_m hb hm f1) (offH_0 (fun _ _ _ => rfl)) g2 (FLr_w w2)) (run2 D2 n2)
  have wrong : ∀ y, (so i = 210 ∧ y = 2) ∨ (so i = 211 ∧ y = 3) → ((y = 3 ∧ ¬ f = 2) ∨ (y = 2 ∧ (f = 0 ∨ a = 0))) → wX4_readForm_70 S (fun x_2 S_2 => (¬ x_2 = 0 → wX4_readMember_131 S_2 x1 1 k) ∧ (x_2 = 0 → k 0 S_2)) := by
    intro y hy nb
    unfold wX4_readForm_70
    obtain ⟨D2, w2, n2⟩ := R_f5 K C.1 R (by omega)
    refine C_fl N4 C (fun S2 g2 => ⟨Or.inl rfl, fun w => absurd rfl w, fun _ => h0 S2 D2 y (FO_mk3 hb (by decide) (S1 := S) (D1 := D) (offFam_rd hb (fun _ _ _ => rfl)) (offH_0 (fun _ _ _ => rfl)) g2 w2) (fun k' hk => run y (by omega) k' ?_)⟩)
    have e64 : wX8_readShape_64 D y k' := by
      unfold wX8_readShape_64 wX8_readShape_73
      exact fails_mono (fun S_6 q => ⟨fun w => by omega, fun _ => q⟩) (n2 (fun S => k' y S) hk)
    unfold wX8_readShape_40 wX8_readShape_51
    refine ⟨fun z => ⟨fun z2 => by omega, fun z2 => ⟨fun _ => e64, fun z3 => ⟨fun z4 => by omega, fun _ => e64⟩⟩⟩, fun z => ⟨fun _ => e64, fun z2 => by omega⟩⟩
  have e61 : ∀ s0 s1, ¬ (¬ s0 = 0 ∧ ¬ s1 = 0) → (s0 = 0 ∨ s0 = 1) → (s1 = 0 ∨ s1 = 1) → (s0 = 1 ↔ (so i = 211 ∧ ¬ f = 2)) → (s1 = 1 ↔ (so i = 210 ∧ (f = 0 ∨ a = 0))) → (so i = 209 ∨ so i = 210 ∨ so i = 211) → wX4_readForm_61 S s0 s1 (fun x_2 S_2 => (¬ x_2 = 0 → wX4_readMember_131 S_2 x1 1 k) ∧ (x_2 = 0 → k 0 S_2)) := by
    intro s0 s1 _ h0' h1' g0 g1 hs
    unfold wX4_readForm_61
    refine ⟨fun z => ?_, fun z => ⟨fun z1 x ex => ?_, fun z1 => ?_⟩⟩
    · have q := g0.mp (by omega)
      exact wrong 3 (Or.inr ⟨q.1, rfl⟩) (Or.inl ⟨rfl, q.2⟩)
    · rw [M.2.1] at ex
      rw [ex, C.2.2.2.2.2.2.1]
      have q0 : ¬ (so i = 211 ∧ ¬ f = 2) := fun w => by have := g0.mpr w; omega
      have q1 : ¬ (so i = 210 ∧ (f = 0 ∨ a = 0)) := fun w => by have := g1.mpr w; omega
      exact ⟨ix, fun z2 => ⟨fun z3 => put 3 (by omega) (by omega), fun z3 => put 2 (by omega) (by omega)⟩, fun z2 => put 1 (by omega) (by omega)⟩
    · have q := g1.mp (by omega)
      exact wrong 2 (Or.inl ⟨q.1, rfl⟩) (Or.inr ⟨rfl, q.2⟩)
  have e25 : ∀ s0, (s0 = 0 ∨ s0 = 1) → (s0 = 1 ↔ (so i = 211 ∧ ¬ f = 2)) → (so i = 209 ∨ so i = 210 ∨ so i = 211) → wX4_readForm_25 S s0 (fun x_2 S_2 => (¬ x_2 = 0 → wX4_readMember_131 S_2 x1 1 k) ∧ (x_2 = 0 → k 0 S_2)) := by
    intro s0 hs0 g0 hs
    unfold wX4_readForm_25 wX4_readForm_60 wX4_readForm_56
    rw [C.2.2.2.2.2.2.1]
    refine ⟨fun z => e61 s0 0 (by omega) hs0 (by omega) g0 (by omega) hs, fun z x ex => ?_⟩
    have s00 : s0 = 0 := by
      rcases hs0 with w | w
      · exact w
      · have := (g0.mp w).1; omega
    rw [M.1.1.1.2.2.2.2] at ex
    rw [ex, M.1.2.2.1.2.2.2.2.1, ef]
    refine ⟨isO_t hb ht, fun z2 => e61 s0 1 (by omega) hs0 (by omega) g0 (by omega) hs, fun z2 y ey => ?_⟩
    rw [M.2.1] at ey
    rw [ey]
    refine ⟨ix, ?_⟩
    unfold wX3_isOwn wX3_isOwn_0
    refine ⟨fun z3 => ⟨fun _ => e61 s0 0 (by omega) hs0 (by omega) g0 ?_ hs, fun w => absurd rfl w⟩, fun z3 => ⟨fun w => absurd w (by decide), fun _ => e61 s0 1 (by omega) hs0 (by omega) g0 ?_ hs⟩⟩
    · have : ¬ a = 0 := fun w => z3 (ow.mpr w)
      omega
    · have : a = 0 := ow.mp z3
      omega
  have go : so i = 209 ∨ so i = 210 ∨ so i = 211 → wX4_readMember_112 S x1 k := by
    intro hs
    unfold wX4_readMember_112 wX4_readMember_117 wX4_readForm wX4_readForm_0 wX4_readForm_24
    refine ⟨fun z => absurd z (by decide), fun _ => ?_⟩
    rw [C.2.2.2.2.2.2.1]
    refine ⟨fun z => e25 0 (by omega) (by omega) hs, fun z x ex => ?_⟩
    rw [M.1.1.1.2.2.2.2] at ex
    rw [ex]
    refine ⟨isO_t hb ht, ?_⟩
    unfold wX6_isFace wX6_isFace_0
    rw [M.1.2.2.1.2.2.2.2.1, ef]
    exact ⟨fun nf => ⟨fun w => absurd rfl w, fun _ => e25 1 (by omega) (by omega) hs⟩, fun f2 => ⟨fun _ => e25 0 (by omega) (by omega) hs, fun w => absurd w (by decide)⟩⟩
  unfold wX4_readMember_82
  rw [C.2.2.2.2.2.2.1]
  refine ⟨fun z => go (Or.inl z), fun z => ⟨fun z2 => go (Or.inr (Or.inl z2)), fun z2 => ⟨fun z3 => ?_, fun z3 => go (Or.inr (Or.inr z3))⟩⟩⟩
  unfold wX4_readMember_117
  refine ⟨fun _ => h1 S D i (-1) 0 (Int.le_refl _) C R (Or.inl rfl) (Or.inl ⟨by decide, rfl, rfl⟩) (fun _ _ _ _ => rfl) (fun _ _ _ => rfl) (fun w => absurd w (by decide)) (fun k' hk => run (-1) (Or.inr (Or.inr (Or.inr ⟨⟨z, z2, z3⟩, rfl⟩))) k' ?_), fun w => absurd rfl w⟩
  unfold wX8_readShape_40 wX8_readShape_51 wX8_readShape_73
  exact ⟨fun _ => ⟨fun _ => ⟨fun _ => hk, fun w => absurd w (by decide)⟩, fun w => absurd w (by decide)⟩, fun w => absurd w (by decide)⟩
/-- what stands where the text says nothing -/
theorem C_dflt {k : Int → St → Prop} (hb : b = 2 ∨ b = 515) (ht : 0 ≤ t ∧ t < 24) (M : Mb S b D h t m) (ef : D 11 (24 * h + t) = f)
    (h1 : ∀ S', (f = 2 ∧ x1 = 0 → S' (me b m) 2 = 3) → (¬ (f = 2 ∧ x1 = 0) → S' (me b m) 2 = S (me b m) 2) → (f = 2 ∧ x2 = 0 → S' (me b m) 3 = 2) → (¬ (f = 2 ∧ x2 = 0) → S' (me b m) 3 = S (me b m) 3) → (∀ z j, ¬ (z = me b m ∧ (j = 2 ∨ j = 3)) → S' z j = S z j) → wX4_readMember_175 S' k) : wX4_readMember_131 S x1 x2 k := by
  have ix := isO_m hb M.2.2.1
  have it := isO_t hb ht
  have c12 := M.1.1.1.2.2.2.2
  have c14 := M.2.1
  have c4 := M.1.2.2.1.2.2.2.2.1
  rw [ef] at c4
  have e153 : ∀ S1, (∀ z j, ¬ (z = me b m ∧ j = 2) → S1 z j = S z j) → (f = 2 ∧ x1 = 0 → S1 (me b m) 2 = 3) → (¬ (f = 2 ∧ x1 = 0) → S1 (me b m) 2 = S (me b m) 2) → wX4_readMember_153 S1 x2 k := by
    intro S1 o1 g1 g2
    have s12 : S1 1032 12 = ty b t := by rw [o1 _ _ (by have := M.2.2.1; unfold me; omega)]; exact c12
    have s14 : S1 1032 14 = me b m := by rw [o1 _ _ (by have := M.2.2.1; unfold me; omega)]; exact c14
    have s4 : S1 (ty b t) 4 = f := by rw [o1 _ _ (by have := M.2.2.1; unfold me ty; omega)]; exact c4
    unfold wX4_readMember_153
    intro x ex
    rw [s12] at ex
    rw [ex]
    refine ⟨it, ?_⟩
    unfold wX6_isFace wX6_isFace_0
    rw [s4]
    refine ⟨fun nf => ⟨fun _ => h1 S1 g1 g2 (fun w => absurd w.1 nf) (fun _ => o1 _ _ (by omega)) (fun z j g => o1 z j (by omega)), fun w => absurd rfl w⟩, fun f2 => ⟨fun w => absurd w (by decide), fun _ => ⟨fun nx => h1 S1 g1 g2 (fun w => absurd w.2 nx) (fun _ => o1 _ _ (by omega)) (fun z j g => o1 z j (by omega)), fun x0 y ey => ?_⟩⟩⟩
    rw [s14] at ey
    rw [ey]
    refine ⟨ix, fun S2 e2 => h1 S2 (fun w => ?_) (fun w => ?_) (fun _ => by rw [e2, up_s]) (fun w => absurd ⟨f2, x0⟩ w) (fun z j g => ?_)⟩
    · rw [e2, up_n _ (by omega)]; exact g1 w
    · rw [e2, up_n _ (by omega)]; exact g2 w
    · rw [e2, up_n _ (by omega)]; exact o1 z j (by omega)
  unfold wX4_readMember_131
  intro x ex
  rw [c12] at ex
  rw [ex]
  refine ⟨it, ?_⟩
  unfold wX6_isFace wX6_isFace_0
  rw [c4]
  refine ⟨fun nf => ⟨fun _ => e153 S (fun _ _ _ => rfl) (fun w => absurd w.1 nf) (fun _ => rfl), fun w => absurd rfl w⟩, fun f2 => ⟨fun w => absurd w (by decide), fun _ => ⟨fun nx => e153 S (fun _ _ _ => rfl) (fun w => absurd w.2 nx) (fun _ => rfl), fun x0 y ey => ?_⟩⟩⟩
  rw [c14] at ey
  rw [ey]
  exact ⟨ix, fun S2 e2 => e153 S2 (fun z j g => by rw [e2, up_n _ (by omega)]) (fun _ => by rw [e2, up_s]) (fun w => absurd ⟨f2, x0⟩ w)⟩
end Mem3
