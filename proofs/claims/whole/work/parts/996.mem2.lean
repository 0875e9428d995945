/-! pure: reading: a member's access and form, both together -/
section Mem2
variable {T te so va pl : Int → Int} {n N i b h t m fc a : Int} {S D S' D' S1 D1 : St}
theorem fails_mono {f p : Int} {k k' : St → Prop} (hk : ∀ S, k S → k' S) (g : wX8_fails D f p k) : wX8_fails D f p k' := by
  unfold wX8_fails wX8_fails_0 at g ⊢
  exact ⟨fun z => hk _ (g.1 z), fun z S1 e1 S2 e2 => hk _ (g.2 z S1 e1 S2 e2)⟩
theorem R_f5 (K : Tks T n N te so va pl) (hi : 0 ≤ i ∧ i < N) (R : RTk T n te so va pl D i) (ne : ¬ so i = 0) : ∃ D2, (D2 0 8 = 5 ∧ D2 0 9 = pl i ∧ ∀ a j, ¬ (a = 0 ∧ 4 ≤ j ∧ j ≤ 9) → D2 a j = D a j) ∧ ∀ k : St → Prop, k D2 → wX8_fails D 5 (D 0 6) (fun S => wX8_past S k) := by
  obtain ⟨D1, w1, n1⟩ := R_fl (S := D) (f := 5) (p := pl i) R.2.2.2.2.2.2.2
  have met : ¬ D1 0 8 = 0 := by rw [w1.1]; decide
  have d6 := R.2.2.2.2.2.1
  by_cases c : D1 0 48 = 0
  · obtain ⟨D2, w2, n2⟩ := R_nxF K hi R ne w1
    refine ⟨D2, w2, fun k hk => ?_⟩
    rw [d6]
    refine n1 _ ?_
    unfold wX8_past wX8_past_0
    exact ⟨fun _ => n2 _ hk, fun z => absurd c z⟩
  · refine ⟨D1, FLr_w w1, fun k hk => ?_⟩
    rw [d6]
    refine n1 _ ?_
    unfold wX8_past wX8_past_0
    exact ⟨fun z => absurd z c, fun _ => R_fl_no met hk⟩
theorem J_acc {k : Int → St → Prop} (hb : b = 2 ∨ b = 515) (ht : 0 ≤ t ∧ t < 24) (K : Tks T n N te so va pl) (C : CTk N so va pl S i) (R : RTk T n te so va pl D i) (M : Mb S b D h t m) (hf : (fc = 1 ∧ D 11 (24 * h + t) = 2) ∨ (fc = 0 ∧ ¬ D 11 (24 * h + t) = 2))
    (h1 : ∀ S' D' j a x1, i ≤ j → CTk N so va pl S' j → RTk T n te so va pl D' j → (a = -1 ∨ a = 0 ∨ a = 2 ∨ a = 3) → ((a < 0 ∧ x1 = 0 ∧ S' (me b m) 2 = S (me b m) 2) ∨ (0 ≤ a ∧ x1 = 1 ∧ S' (me b m) 2 = a)) → (∀ z j, ¬ (z = 1032 ∧ 4 ≤ j ∧ j ≤ 6) → ¬ (z = me b m ∧ j = 2) → S' z j = S z j) → offN D D' → (a = 2 → fc = 0) → (∀ k' : Int → St → Prop, k' a D' → wX8_readAccess D fc k') → wX4_readMember_82 S' x1 k)
    (h0 : ∀ S' D' a, FO S D b h S' D' → (∀ k' : Int → St → Prop, k' a D' → wX8_readAccess D fc k') → k 0 S') :
    (S 1032 5 = 206 → wX4_readMember_63 S k) ∧ (¬ S 1032 5 = 206 → (S 1032 5 = 207 → wX4_readMember_63 S k) ∧ (¬ S 1032 5 = 207 → (¬ S 1032 5 = 208 → wX4_readMember_68 S 0 k) ∧ (S 1032 5 = 208 → wX4_readMember_63 S k))) := by
  have N4 := K.1.2
  have t1 := K.2.2.1 i C.1.1 C.1.2
  have hm := M.2.2.1
  have ix := isO_m hb hm
  have run : ∀ y, (so i = 206 ∧ y = 3) ∨ (so i = 207 ∧ y = 2) ∨ (so i = 208 ∧ y = 0) ∨ ((¬ so i = 206 ∧ ¬ so i = 207 ∧ ¬ so i = 208) ∧ y = -1) → ∀ k' : Int → St → Prop, wX8_readAccess_40 D fc y k' → wX8_readAccess D fc k' := by
    intro y hy k' hk
    unfold wX8_readAccess wX8_readAccess_0
    refine R_isS R t1.2.1 (x := 206) (by unfold srtOK; omega) (by decide) (fun w => ⟨fun z => absurd z (by decide), fun _ => ?_⟩) (fun w => ⟨fun _ => R_isS R t1.2.1 (x := 207) (by unfold srtOK; omega) (by decide) (fun w2 => ⟨fun z => absurd z (by decide), fun _ => ?_⟩) (fun w2 => ⟨fun _ => R_isS R t1.2.1 (x := 208) (by unfold srtOK; omega) (by decide) (fun w3 => ⟨fun z => absurd z (by decide), fun _ => ?_⟩) (fun w3 => ⟨fun _ => ?_, fun z => absurd rfl z⟩), fun z => absurd rfl z⟩), fun z => absurd rfl z⟩)
    · have : y = 3 := by omega
      rw [← this]; exact hk
    · have : y = 2 := by omega
      rw [← this]; exact hk
    · have : y = 0 := by omega
      rw [← this]; exact hk
    · have : y = -1 := by omega
      rw [← this]; exact hk
  have put : ∀ y, (so i = 206 ∧ y = 3) ∨ (so i = 207 ∧ y = 2) ∨ (so i = 208 ∧ y = 0) → ¬ (y = 2 ∧ fc = 1) → wX4_readAccess_59 S (me b m) y (fun x_2 S_2 => (¬ x_2 = 0 → wX4_readMember_82 S_2 1 k) ∧ (x_2 = 0 → k 0 S_2)) := by
    intro y hy nb
    unfold wX4_readAccess_59
    intro S1 e1
    have o1 : ∀ z j, ¬ (z = me b m ∧ j = 2) → S1 z j = S z j := fun z j g => by rw [e1, up_n _ (by omega)]
    have f1 : fM S S1 b m := fun z j g1 g2 => o1 z j (by omega)
    have C1 : CTk N so va pl S1 i := C.off (fun z j g => o1 z j (by unfold me; omega))
    have M1 := M.tr hb ht f1 (D' := D) (fun _ _ _ _ _ => rfl)
    have run2 : ∀ (D2 : St), (∀ k' : St → Prop, k' D2 → wX8_past D k') → ∀ k' : Int → St → Prop, k' y D2 → wX8_readAccess D fc k' := by
      intro D2 n2 k' hk
      refine run y (by omega) k' ?_
      have e59 : wX8_readAccess_59 D y k' := by
        unfold wX8_readAccess_59
        exact ⟨fun z => by omega, fun _ => n2 _ hk⟩
      unfold wX8_readAccess_40
      exact ⟨fun _ => e59, fun z => ⟨fun _ => e59, fun z2 => absurd ⟨z, by omega⟩ nb⟩⟩
    refine J_past hb ht K C1 R M1 (by omega) (fun _ _ S2 D2 a2 C2 o2 r2 n2 => ⟨Or.inr rfl, fun _ => ?_, fun z => absurd z (by decide)⟩) (fun S2 D2 g2 w2 n2 => ⟨Or.inl rfl, fun z => absurd rfl z, fun _ => ?_⟩)
    · refine h1 S2 D2 (i + 1) y 1 (by omega) C2 r2 (by omega) (Or.inr ⟨by omega, rfl, ?_⟩) (fun z j g1 g2 => ?_) o2 (fun z => by omega) (run2 D2 n2)
      · rw [a2 _ _ (by unfold me; omega), e1, up_s]
      · rw [a2 _ _ g1, o1 _ _ g2]
    · exact h0 S2 D2 y (FO_mk3 hb (by decide) (offFam_m hb hm f1) (offH_0 (fun _ _ _ => rfl)) g2 (FLr_w w2)) (run2 D2 n2)
  have go : so i = 206 ∨ so i = 207 ∨ so i = 208 → wX4_readMember_63 S k := by
    intro hs
    have e26 : ¬ (so i = 207 ∧ fc = 1) → wX4_readAccess_26 S (fun x_2 S_2 => (¬ x_2 = 0 → wX4_readMember_82 S_2 1 k) ∧ (x_2 = 0 → k 0 S_2)) := by
      intro nb
      unfold wX4_readAccess_26
      intro x ex
      rw [M.2.1] at ex
      rw [ex, C.2.2.2.2.2.2.1]
      exact ⟨ix, fun z => ⟨fun z2 => put 0 (by omega) (by omega), fun z2 => put 2 (by omega) (by omega)⟩, fun z => put 3 (by omega) (by omega)⟩
    unfold wX4_readMember_63 wX4_readMember_68 wX4_readAccess wX4_readAccess_0
    refine ⟨fun z => absurd z (by decide), fun _ => ?_⟩
    rw [C.2.2.2.2.2.2.1]
    refine ⟨fun z => e26 (by omega), fun z x ex => ?_⟩
    rw [M.1.1.1.2.2.2.2] at ex
    rw [ex]
    refine ⟨isO_t hb ht, ?_⟩
    unfold wX6_isFace wX6_isFace_0
    rw [M.1.2.2.1.2.2.2.2.1]
    refine ⟨fun nf => ⟨fun _ => e26 (by omega), fun w => absurd rfl w⟩, fun f2 => ⟨fun w => absurd w (by decide), fun _ => ?_⟩⟩
    obtain ⟨D2, w2, n2⟩ := R_f5 K C.1 R (by omega)
    refine C_fl N4 C (fun S2 g2 => ⟨Or.inl rfl, fun w => absurd rfl w, fun _ => h0 S2 D2 2 (FO_mk3 hb (by decide) (S1 := S) (D1 := D) (offFam_rd hb (fun _ _ _ => rfl)) (offH_0 (fun _ _ _ => rfl)) g2 w2) (fun k' hk => run 2 (by omega) k' ?_)⟩)
    unfold wX8_readAccess_40
    refine ⟨fun w => absurd rfl w, fun _ => ⟨fun w => by omega, fun _ => ?_⟩⟩
    unfold wX8_readAccess_59
    have := n2 (fun S => k' 2 S) hk
    refine fails_mono (fun S_6 q => ⟨fun w => absurd w (by decide), fun _ => q⟩) this
  rw [C.2.2.2.2.2.2.1]
  refine ⟨fun z => go (Or.inl z), fun z => ⟨fun z2 => go (Or.inr (Or.inl z2)), fun z2 => ⟨fun z3 => ?_, fun z3 => go (Or.inr (Or.inr z3))⟩⟩⟩
  unfold wX4_readMember_68
  refine ⟨fun _ => h1 S D i (-1) 0 (Int.le_refl _) C R (Or.inl rfl) (Or.inl ⟨by decide, rfl, rfl⟩) (fun _ _ _ _ => rfl) (fun _ _ _ => rfl) (fun w => absurd w (by decide)) (fun k' hk => run (-1) (Or.inr (Or.inr (Or.inr ⟨⟨z, z2, z3⟩, rfl⟩))) k' ?_), fun w => absurd rfl w⟩
  unfold wX8_readAccess_40 wX8_readAccess_59
  exact ⟨fun _ => ⟨fun _ => hk, fun w => absurd w (by decide)⟩, fun w => absurd w (by decide)⟩
end Mem2
