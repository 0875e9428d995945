/-! pure: reading: a member's first tokens, both together -/
def fM (S S' : St) (b m : Int) : Prop := ∀ a j, ¬ (a = 1032 ∧ 4 ≤ j ∧ j ≤ 6) → ¬ (me b m ≤ a ∧ a ≤ me b m + 2) → S' a j = S a j
def gM (D D' : St) (h m : Int) : Prop := ∀ a j, ¬ (a = 0 ∧ 4 ≤ j ∧ j ≤ 7) → ¬ (a = 29 ∧ j = 120 * h + m) → ¬ (a = 33 ∧ 3 * (120 * h + m) ≤ j ∧ j < 3 * (120 * h + m) + 3) → D' a j = D a j
def Mb (S : St) (b : Int) (D : St) (h t m : Int) : Prop := Md S b D h t ∧ S 1032 14 = me b m ∧ (0 ≤ m ∧ m ≤ 120) ∧ (S (ty b t) 17 = D 25 (24 * h + t) ∧ S b 3 = m ∧ D 4 h = m) ∧ D 25 (24 * h + t) ≤ 8 ∧ (D 0 48 = 0 ∨ D 0 48 = 1) ∧ (D 0 48 = 1 ↔ (D 25 (24 * h + t) = 8 ∨ m = 120)) ∧ 0 ≤ D 11 (24 * h + t) ∧ D 11 (24 * h + t) ≤ 2
section Mem1
variable {T te so va pl : Int → Int} {n N i b h t m : Int} {S D S' D' S1 D1 : St}
theorem isO_m (hb : b = 2 ∨ b = 515) (hm : 0 ≤ m ∧ m ≤ 120) : isO 3 (me b m) := isO_mb (isO_b hb) (X := m) ⟨hm.1, by omega⟩ rfl
theorem fM.tr (g : fM S S1 b m) (g' : fM S1 S' b m) : fM S S' b m := fun a j x y => (g' a j x y).trans (g a j x y)
theorem gM.tr (g : gM D D1 h m) (g' : gM D1 D' h m) : gM D D' h m := fun a j x y z => (g' a j x y z).trans (g a j x y z)
theorem fM_Ad (o : offAd S S') : fM S S' b m := fun a j x _ => o a j x
theorem gM_N (o : offN D D') : gM D D' h m := fun a j x _ _ => o a j x
theorem offFam_m (hb : b = 2 ∨ b = 515) (hm : 0 ≤ m ∧ m ≤ 120) (o : fM S S' b m) : offFam S S' b := ⟨fun a j g1 g2 => o a j (by omega) (by unfold me; omega), fun u u0 u1 => o _ _ (by unfold ty; omega) (by unfold ty me; omega)⟩
theorem offH_m (hm : 0 ≤ m ∧ m < 120) (o : gM D D' h m) (o33 : LE33 D → LE33 D') : offH D D' h := ⟨fun a j g => o a j (fun w => g (Or.inl ⟨w.1, Or.inl (by omega)⟩)) (fun w => g (Or.inr (Or.inr (Or.inr (Or.inr (Or.inr (Or.inr (Or.inr (Or.inr (Or.inr (Or.inl (by omega)))))))))))) (fun w => g (Or.inr (Or.inr (Or.inr (Or.inr (Or.inr (Or.inr (Or.inr (Or.inr (Or.inr (Or.inr (Or.inl (by omega))))))))))))), o33⟩
theorem Md_m (hb : b = 2 ∨ b = 515) (ht : 0 ≤ t ∧ t < 24) (hm : 0 ≤ m ∧ m ≤ 120) (M : Md S b D h t) (c : ∀ a j, ¬ (a = 1032 ∧ ((4 ≤ j ∧ j ≤ 6) ∨ j = 14)) → ¬ (me b m ≤ a ∧ a ≤ me b m + 2) → S' a j = S a j) (d : ∀ a j, ¬ (a = 0 ∧ ((4 ≤ j ∧ j ≤ 7) ∨ j = 48)) → ¬ (a = 29 ∨ a = 33) → D' a j = D a j) : Md S' b D' h t := by
  obtain ⟨x1, x2, ⟨g0, g1, g2, g3, g4, g5, g6, g7⟩, x4⟩ := M
  have e0 : ∀ u y j, 0 ≤ u → u ≤ t → 0 ≤ y → y ≤ 2 → S' (ty b u + y) j = S (ty b u + y) j := fun u y j u0 u1 y0 y1 => c _ _ (by unfold ty; omega) (by unfold ty me; omega)
  have e00 : ∀ u j, 0 ≤ u → u ≤ t → S' (ty b u) j = S (ty b u) j := fun u j u0 u1 => by have := e0 u 0 j u0 u1 (by decide) (by decide); rwa [Int.add_zero] at this
  have eD : ∀ a, 8 ≤ a → a ≤ 15 → D' a = D a := fun a g1 g2 => funext (fun j => d _ _ (by omega) (by omega))
  obtain ⟨⟨a1, a2, a3, a4, a5⟩, a6, a7⟩ := x1
  refine ⟨⟨⟨?_, ?_, ?_, ?_, ?_⟩, fun u u0 u1 => ?_, ?_⟩, ?_, ⟨?_, ?_, ?_, ?_, ?_, ?_, ?_, fun k => ?_⟩, ?_⟩
  · rw [c _ _ (by omega) (by unfold me; omega)]; exact a1
  · rw [d _ _ (by omega) (by omega)]; exact a2
  · rw [c _ _ (by omega) (by unfold me; omega)]; exact a3
  · rw [d _ _ (by omega) (by omega)]; exact a4
  · rw [c _ _ (by omega) (by unfold me; omega)]; exact a5
  · obtain ⟨⟨q0, q1, q2, q3, q4, q5, q6, q7⟩, q8⟩ := a6 u u0 u1
    refine ⟨⟨?_, ?_, ?_, ?_, ?_, ?_, ?_, fun k => ?_⟩, ?_⟩
    · rw [e00 u _ u0 (by omega)]; exact q0
    · rw [e00 u _ u0 (by omega), eD 8 (by decide) (by decide)]; exact q1
    · rw [e00 u _ u0 (by omega), eD 9 (by decide) (by decide)]; exact q2
    · rw [e00 u _ u0 (by omega), eD 10 (by decide) (by decide)]; exact q3
    · rw [e00 u _ u0 (by omega), eD 11 (by decide) (by decide)]; exact q4
    · rw [e00 u _ u0 (by omega), eD 12 (by decide) (by decide)]; exact q5
    · rw [e00 u _ u0 (by omega), eD 13 (by decide) (by decide)]; exact q6
    · rw [e0 u 1 _ u0 (by omega) (by decide) (by decide), e0 u 2 _ u0 (by omega) (by decide) (by decide), eD 13 (by decide) (by decide), eD 14 (by decide) (by decide), eD 15 (by decide) (by decide)]; exact q7 k
    · rw [eD 13 (by decide) (by decide)]; exact q8
  · unfold dst at a7 ⊢
    rw [eD 8 (by decide) (by decide)]; exact a7
  · unfold dsv at x2 ⊢
    rw [eD 13 (by decide) (by decide), eD 14 (by decide) (by decide)]; exact x2
  · rw [e00 t _ ht.1 (Int.le_refl _)]; exact g0
  · rw [e00 t _ ht.1 (Int.le_refl _), eD 8 (by decide) (by decide)]; exact g1
  · rw [e00 t _ ht.1 (Int.le_refl _), eD 9 (by decide) (by decide)]; exact g2
  · rw [e00 t _ ht.1 (Int.le_refl _), eD 10 (by decide) (by decide)]; exact g3
  · rw [e00 t _ ht.1 (Int.le_refl _), eD 11 (by decide) (by decide)]; exact g4
  · rw [e00 t _ ht.1 (Int.le_refl _), eD 12 (by decide) (by decide)]; exact g5
  · rw [e00 t _ ht.1 (Int.le_refl _), eD 13 (by decide) (by decide)]; exact g6
  · rw [e0 t 1 _ ht.1 (Int.le_refl _) (by decide) (by decide), e0 t 2 _ ht.1 (Int.le_refl _) (by decide) (by decide), eD 13 (by decide) (by decide), eD 14 (by decide) (by decide), eD 15 (by decide) (by decide)]; exact g7 k
  · rw [eD 13 (by decide) (by decide)]; exact x4
theorem Mb.tr (hb : b = 2 ∨ b = 515) (ht : 0 ≤ t ∧ t < 24) (M : Mb S b D h t m) (c : fM S S' b m) (d : gM D D' h m) : Mb S' b D' h t m := by
  obtain ⟨m1, m2, m3, ⟨m4, m5, m6⟩, m7, m8, m9, m10⟩ := M
  refine ⟨Md_m hb ht m3 m1 (fun a j g1 g2 => c a j (by omega) g2) (fun a j g1 g2 => d a j (by omega) (by omega) (by omega)), ?_, m3, ⟨?_, ?_, ?_⟩, ?_, ?_, ?_, ?_⟩
  · rw [c _ _ (by omega) (by unfold me; omega)]; exact m2
  · rw [c _ _ (by unfold ty; omega) (by unfold ty me; omega), d _ _ (by omega) (by omega) (by omega)]; exact m4
  · rw [c _ _ (by omega) (by unfold me; omega)]; exact m5
  · rw [d _ _ (by omega) (by omega) (by omega)]; exact m6
  · rw [d _ _ (by omega) (by omega) (by omega)]; exact m7
  · rw [d _ _ (by omega) (by omega) (by omega)]; exact m8
  · rw [d 0 48 (by omega) (by omega) (by omega), d 25 _ (by omega) (by omega) (by omega)]; exact m9
  · rw [d _ _ (by omega) (by omega) (by omega)]; exact m10
/-- a fault within a member's first tokens: the reference may still step on -/
theorem R_nxF {f p : Int} (K : Tks T n N te so va pl) (hi : 0 ≤ i ∧ i < N) (R : RTk T n te so va pl D i) (ne : ¬ so i = 0) (g : FLr D D1 f p) : ∃ D2, (D2 0 8 = f ∧ D2 0 9 = p ∧ ∀ a j, ¬ (a = 0 ∧ 4 ≤ j ∧ j ≤ 9) → D2 a j = D a j) ∧ ∀ k : St → Prop, k D2 → wX8_next D1 k := by
  obtain ⟨c1, c2, c3, c4, c5, c6, c7, c8⟩ := R
  have hN := K.1
  have iN : i < N - 1 := by
    have := (K.2.2.2 i hi.1 hi.2)
    omega
  have t := K.2.2.1 (i + 1) (by omega) (by omega)
  have e1 : D1 1 = D 1 := funext (fun j => g.2.2 _ _ (by omega))
  obtain ⟨S2, s4, s5, s6, s7, o, r⟩ := R_next (S := D1) (by rw [g.2.2 _ _ (by omega)]; exact c2) K.2.1 (fun j hj => by rw [g.2.2 _ _ (by omega)]; exact c3 j hj) (by rw [g.2.2 _ _ (by omega)]; exact c4) t.2.2 (by rw [e1, c1]; exact t.1)
  refine ⟨S2, ⟨?_, ?_, fun a j w => ?_⟩, r⟩
  · rw [o _ _ (by omega)]; exact g.1
  · rw [o _ _ (by omega)]; exact g.2.1
  · rw [o _ _ (by omega), g.2.2 _ _ (by omega)]
theorem FO_mk3 {f p : Int} {S2 D2 : St} (hb : b = 2 ∨ b = 515) (f1 : 1 ≤ f) (a : offFam S S1 b) (d : offH D D1 h) (g : FLc S1 S2 f p) (w : D2 0 8 = f ∧ D2 0 9 = p ∧ ∀ a j, ¬ (a = 0 ∧ 4 ≤ j ∧ j ≤ 9) → D2 a j = D1 a j) : FO S D b h S2 D2 :=
  ⟨f, p, f1, g.1, g.2.1, w.1, w.2.1, a.tr (offFam_rd hb (fun x j z => g.2.2 x j (by omega))), d.tr (offH_0 (fun x j z => w.2.2 x j (by omega)))⟩
theorem FLr_w {f p : Int} (g : FLr D D1 f p) : D1 0 8 = f ∧ D1 0 9 = p ∧ ∀ a j, ¬ (a = 0 ∧ 4 ≤ j ∧ j ≤ 9) → D1 a j = D a j := ⟨g.1, g.2.1, fun a j w => g.2.2 a j (by omega)⟩
theorem J_past {k : Int → St → Prop} (hb : b = 2 ∨ b = 515) (ht : 0 ≤ t ∧ t < 24) (K : Tks T n N te so va pl) (C : CTk N so va pl S i) (R : RTk T n te so va pl D i) (M : Mb S b D h t m) (ni : ¬ so i = 0)
    (h1 : m < 120 → D 25 (24 * h + t) < 8 → ∀ S' D', offAd S S' → CTk N so va pl S' (i + 1) → offN D D' → RTk T n te so va pl D' (i + 1) → (∀ k' : St → Prop, k' D' → wX8_past D k') → k 1 S')
    (h0 : ∀ S' D', FLc S S' 6 (pl i) → FLr D D' 6 (pl i) → (∀ k' : St → Prop, k' D' → wX8_past D k') → k 0 S') : wX4_passFirst S k := by
  have N4 := K.1.2
  obtain ⟨m1, m2, m3, ⟨m4, m5, m6⟩, m7, m8, m9, m10⟩ := M
  have bad : (D 25 (24 * h + t) = 8 ∨ m = 120) → wX4_passFirst_24 S k := by
    intro z
    obtain ⟨D1, w1, n1⟩ := R_fl (S := D) (f := 6) (p := pl i) R.2.2.2.2.2.2.2
    unfold wX4_passFirst_24
    refine C_fl N4 C (fun S1 g1 => ⟨Or.inl rfl, h0 S1 D1 g1 w1 (fun k' hk => ?_)⟩)
    unfold wX8_past wX8_past_0
    have := m9.mpr z
    rw [R.2.2.2.2.2.1]
    exact ⟨fun z => by omega, fun _ => n1 _ hk⟩
  unfold wX4_passFirst wX4_passFirst_0
  intro x ex
  rw [m1.1.1.2.2.2.2] at ex
  rw [ex, m4]
  refine ⟨isO_t hb ht, fun z => bad (by omega), fun z y ey => ?_⟩
  rw [m1.1.1.1] at ey
  rw [ey, m5]
  refine ⟨isO_b hb, fun z2 => ?_, fun z2 => bad (by omega)⟩
  obtain ⟨D1, ⟨r1, o1⟩, n1⟩ := R_nx K C.1 R ni
  refine C_adv K C ni (fun S1 a1 C1 => h1 z2 z S1 D1 a1 C1 o1 r1 (fun k' hk => ?_))
  unfold wX8_past wX8_past_0
  exact ⟨fun _ => n1 _ hk, fun w => absurd (m9.mp (by omega)) (by omega)⟩
end Mem1
