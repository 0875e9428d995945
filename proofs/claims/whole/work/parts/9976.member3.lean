/-! pure: reading: a member, both together -/
section Member3
variable {T te so va pl : Int → Int} {n N i b h t m M0 base : Int} {S D : St}
theorem J_readMember {k : Int → St → Prop} (hb : b = 2 ∨ b = 515) (hh : half01 h) (ht : 0 ≤ t ∧ t < 24) (K : Tks T n N te so va pl) (C : CTk N so va pl S i) (R : RTk T n te so va pl D i) (O : Op S b D h t M0 m base)
    (h1 : ∀ S' D' j, i < j → CTk N so va pl S' j → RTk T n te so va pl D' j → Op S' b D' h t M0 (m + 1) base → (∀ a j, ¬ (a = 1032 ∧ ((4 ≤ j ∧ j ≤ 6) ∨ j = 14)) → ¬ (me b m ≤ a ∧ a ≤ me b m + 2) → ¬ (a = ty b t ∧ j = 17) → ¬ (a = b ∧ j = 3) → S' a j = S a j) → (∀ a j, ¬ (a = 0 ∧ ((4 ≤ j ∧ j ≤ 7) ∨ j = 48)) → ¬ ((28 ≤ a ∧ a ≤ 32) ∧ j = 120 * h + m) → ¬ (a = 33 ∧ 3 * (120 * h + m) ≤ j ∧ j < 3 * (120 * h + m) + 3) → ¬ (a = 4 ∧ j = h) → ¬ (a = 25 ∧ j = 24 * h + t) → D' a j = D a j) → m < 120 → (∀ k' : St → Prop, k' D' → wX8_readMember D t k') → k 1 S')
    (h0 : ∀ S' D', FO S D b h S' D' → (∀ k' : St → Prop, k' D' → wX8_readMember D t k') → k 0 S') : wX4_readMember S k := by
  have h01 : 0 ≤ h ∧ h ≤ 1 := by unfold half01 at hh; omega
  have ib := isO_b hb
  have it := isO_t hb ht
  obtain ⟨Hd1, Kc, Km, Sg, l25, le0⟩ := id O
  obtain ⟨Hc1, dv, Kt⟩ := id Hd1
  obtain ⟨⟨e3, hD, c1, d3, c12⟩, Hu, ds⟩ := id Hc1
  obtain ⟨⟨m0, m1, m2⟩, mm, rms, rgs, ⟨q1, q2, q3, q4⟩, ⟨p1, p2, p3, p4⟩⟩ := id Km
  have m0' : 0 ≤ m := by omega
  have ix := isO_m hb (m := m) ⟨m0', m2⟩
  have hi : 0 ≤ 24 * h + t ∧ 24 * h + t < 48 := by omega
  have f02 := Kt.2.2.2.2.2.2.2.1
  obtain ⟨fc, hf⟩ : ∃ fc : Int, fcq D h t fc := by
    by_cases c : D 11 (24 * h + t) = 2
    · exact ⟨1, Or.inl ⟨rfl, c⟩⟩
    · exact ⟨0, Or.inr ⟨rfl, c⟩⟩
  obtain ⟨tm, htm, htm2⟩ : ∃ tm : Int, (tm = 0 ∨ tm = 1) ∧ (tm = 1 ↔ (D 25 (24 * h + t) = 8 ∨ m = 120)) := by
    by_cases c : D 25 (24 * h + t) = 8 ∨ m = 120
    · exact ⟨1, Or.inr rfl, fun _ => c, fun _ => rfl⟩
    · exact ⟨0, Or.inl rfl, fun w => absurd w (by decide), fun w => absurd w c⟩
  obtain ⟨D1, ed1⟩ : ∃ D1, D1 = up D 0 48 tm := ⟨_, rfl⟩
  have o1 : ∀ a j, ¬ (a = 0 ∧ j = 48) → D1 a j = D a j := fun a j g => by rw [ed1, up_n _ (by clear htm htm2; omega)]
  have r1 : RTk T n te so va pl D1 i := R.off (fun a j g => o1 a j (by clear htm htm2; omega))
  have run0 : ∀ k' : St → Prop, wX8_readAccess D1 fc (fun x_2 S_2 => wX8_goesOn S_2 (fun x_3 => (x_3 = 0 → wX8_readMember_86 S_2 t (24 * h + t) fc x_2 (-1) k') ∧ (¬ x_3 = 0 → (0 ≤ 24 * h + t ∧ 24 * h + t < 48) ∧ (wX8_readShape S_2 (S_2 11 (24 * h + t)) x_2 (fun x_8 S_8 => wX8_readMember_86 S_8 t (24 * h + t) fc x_2 x_8 k'))))) → wX8_readMember D t k' := by
    intro k' hk
    have e53 : ∀ s1, s1 = tm → wX8_readMember_53 D t (24 * h + t) fc s1 k' := by
      intro s1 es
      unfold wX8_readMember_53
      refine ⟨by rw [es]; exact htm, fun A ea => ?_⟩
      rw [ea, es, ← ed1]; exact hk
    have e21 : wX8_readMember_21 D t (24 * h + t) fc k' := by
      unfold wX8_readMember_21 wX8_readMember_48
      rw [hD, p3]
      exact ⟨hi, fun z => e53 1 (htm2.mpr (Or.inl z)).symm, fun z => ⟨by clear htm htm2; omega, fun z2 => e53 0 (by omega), fun z2 => e53 1 (htm2.mpr (Or.inr z2)).symm⟩⟩
    unfold wX8_readMember wX8_readMember_0 wX8_t wX8_t_0
    rw [hD, w32_eq (x := 24 * h) (by clear htm htm2; omega) (by clear htm htm2; omega), w32_eq (x := 24 * h + t) (by clear htm htm2; omega) (by clear htm htm2; omega)]
    unfold fcq at hf
    refine ⟨hi, fun z => ?_, fun z => ?_⟩
    · have : fc = 0 := by clear htm htm2; omega
      rw [← this]; exact e21
    · have : fc = 1 := by clear htm htm2; omega
      rw [← this]; exact e21
  unfold wX4_readMember wX4_readMember_0
  intro x ex
  rw [e3] at ex
  rw [ex]
  refine ⟨ib, fun x3 ex3 => ?_⟩
  rw [e3] at ex3
  rw [ex3, q3]
  refine ⟨ib, by clear htm htm2; omega, fun x5 ex5 S6 e6 x7 ex7 => ?_⟩
  have ex5 : x5 = me b m := ex5
  rw [ex5] at e6
  have o6 : ∀ a j, ¬ (a = 1032 ∧ j = 14) → S6 a j = S a j := fun a j g => by rw [e6, up_n _ (by clear htm htm2; omega)]
  rw [e6, up_s] at ex7
  rw [ex7]
  refine ⟨ix, fun x8 ex8 => ?_⟩
  rw [o6 _ _ (by clear htm htm2; omega), c12] at ex8
  rw [ex8, o6 _ _ (by clear htm htm2; unfold ty; omega), Kt.1.1]
  refine ⟨it, C_mclear (fun S10 t1 t2 t3 t4 t5 t6 t7 o10 => ?_)⟩
  have oc : ∀ a j, ¬ (a = 1032 ∧ j = 14) → ¬ (me b m ≤ a ∧ a ≤ me b m + 2) → S10 a j = S a j := fun a j g1 g2 => by rw [o10 _ _ g2, o6 _ _ g1]
  have s14 : S10 1032 14 = me b m := by rw [o10 _ _ (by clear htm htm2; unfold me; omega), e6, up_s]
  have C10 : CTk N so va pl S10 i := C.off (fun a j g => oc a j (by clear htm htm2; omega) (by clear htm htm2; unfold me; omega))
  have oc10 : oR S S10 b m := fun a j g1 g2 => oc a j (by clear htm htm2; omega) g2
  have od1 : oQ D D1 := fun a j g => o1 a j (by clear htm htm2; omega)
  have M10 : Mb S10 b D1 h t m := by
    refine ⟨Md_m hb ht (m := m) ⟨m0', m2⟩ Hd1.md (fun a j g1 g2 => oc a j (by clear htm htm2; omega) g2) (fun a j g1 g2 => o1 a j (by clear htm htm2; omega)), s14, ⟨m0', m2⟩, ⟨?_, ?_, ?_⟩, ?_, ?_, ?_, ?_⟩
    · rw [oc _ _ (by clear htm htm2; unfold ty; omega) (by clear htm htm2; unfold ty me; omega), o1 _ _ (by clear htm htm2; omega), q2, p2]
    · rw [oc _ _ (by clear htm htm2; omega) (by clear htm htm2; unfold me; omega)]; exact q3
    · rw [o1 _ _ (by clear htm htm2; omega)]; exact p3
    · rw [o1 _ _ (by clear htm htm2; omega)]; exact l25
    · rw [ed1, up_s]; exact htm
    · rw [o1 25 _ (by clear htm htm2; omega), ed1, up_s]; exact htm2
    · rw [o1 _ _ (by clear htm htm2; omega)]; exact f02
  clear htm htm2
  have hf1 : fcq D1 h t fc := by unfold fcq at hf ⊢; rw [o1 _ _ (by clear hf; omega)]; exact hf
  refine J_mfirst (S0 := S) (D0 := D) hb ht h01 K C10 r1 M10 hf1 ⟨t1, t2, t3, t4, t5, t6, t7⟩ oc10 od1 run0 (fun S4 D3 j a s wr ij C4 r3 M4 rw4 oc4 od4 a2f s2a hwr run4 a3 => ?_) h0
  have hfc : fc = 0 ∨ fc = 1 := by unfold fcq at hf; omega
  refine J_mrest hb hh ht K O C4 r3 M4 rw4 oc4 od4 (hw_of hfc rw4.2.1 rw4.2.2.1 s2a hwr) (fun w => ?_) run4 (fun S' D' j' ij' C' R' O' fS fD m120 run' => h1 S' D' j' (by omega) C' R' O' fS fD m120 run') h0
  have f1 : fc = 1 := by unfold fcq at hf; omega
  unfold accv
  by_cases ca : 0 ≤ a
  · rw [if_pos ca]
    have := a3 ca
    have na : ¬ a = 2 := fun w => by have := a2f w; omega
    omega
  · rw [if_neg ca, if_neg (by omega)]; exact Or.inr rfl
end Member3
