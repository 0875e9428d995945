/-! pure: reading: a type's end, both together -/
section CType
variable {T te so va pl : Int → Int} {n N i b h t M0 M1 base : Int} {S D E S' D' : St}
theorem inH_rwA {a j : Int} (ht : 0 ≤ t ∧ t < 24) (w : rwA h t a j) : inH h a j := by
  unfold rwA at w
  unfold inH
  rcases w with w | w | w
  · exact Or.inr (Or.inr (Or.inr (Or.inl (by omega))))
  · exact Or.inr (Or.inr (Or.inr (Or.inr (Or.inr (Or.inr (Or.inr (Or.inl (by omega))))))))
  · exact Or.inr (Or.inr (Or.inr (Or.inr (Or.inr (Or.inr (Or.inr (Or.inr (Or.inl (by omega)))))))))
theorem inH_34 {a j : Int} (hM : 0 ≤ M0 ∧ M1 ≤ 120) (w : a = 34 ∧ 120 * (120 * h + M0) ≤ j ∧ j < 120 * (120 * h + M1)) : inH h a j := by
  unfold inH
  exact Or.inr (Or.inr (Or.inr (Or.inr (Or.inr (Or.inr (Or.inr (Or.inr (Or.inr (Or.inr (Or.inr (Or.inl (by omega))))))))))))
theorem inH_rwC {a j : Int} (ht : 0 ≤ t ∧ t < 24) (hM : 0 ≤ M0 ∧ M1 ≤ 120) (b0 : 0 ≤ base) (w : rwC h t M0 M1 base a j) : inH h a j := by
  unfold rwC at w
  rcases w with w | w | w | w | w
  · exact inH_rwA ht w
  · exact inH_34 hM w
  · exact Or.inr (Or.inl (by omega))
  · exact Or.inr (Or.inr (Or.inr (Or.inl (by omega))))
  · unfold inH
    exact Or.inr (Or.inr (Or.inr (Or.inr (Or.inr (Or.inr (Or.inr (Or.inr (Or.inr (Or.inr (Or.inr (Or.inr (by omega))))))))))))
theorem rwC_no {a j : Int} (g : a = 0 ∨ a = 1 ∨ a = 2 ∨ a = 3 ∨ a = 4 ∨ a = 6 ∨ a = 7 ∨ (8 ≤ a ∧ a ≤ 19) ∨ a = 24 ∨ a = 25 ∨ (28 ≤ a ∧ a ≤ 33)) : ¬ rwC h t M0 M1 base a j := by
  unfold rwC rwA
  omega
theorem J_closeType {k : Int → St → Prop} (hb : b = 2 ∨ b = 515) (hh : half01 h) (ht : 0 ≤ t ∧ t < 24) (K : Tks T n N te so va pl) (C : CTk N so va pl S i) (R : RTk T n te so va pl D i) (O : Op S b D h t M0 M1 base) (si : so i = 125)
    (h1 : ∀ S' D' base', CTk N so va pl S' (i + 1) → RTk T n te so va pl D' (i + 1) → Bt S' b D' h (t + 1) M1 base' → S' 1032 11 = 0 → pF S S' b → pG D D' h → offFam S S' b → offH D D' h → (∀ k' : St → Prop, k' D' → wX8_readType_292 D t k') → k 1 S')
    (h0 : ∀ S' D', FO S D b h S' D' → (∀ k' : St → Prop, k' D' → wX8_readType_292 D t k') → k 0 S') : wX4_closeType S k := by
  have N4 := K.1.2
  have h01 : 0 ≤ h ∧ h ≤ 1 := by unfold half01 at hh; omega
  have t1 := K.2.2.1 i C.1.1 C.1.2
  obtain ⟨E, eE⟩ : ∃ E, E = up (up S 1034 0 b) 1034 1 (ty b t) := ⟨_, rfl⟩
  have eo : ∀ a j, ¬ a = 1034 → E a j = S a j := fun a j g => by rw [eE, up_n _ (by omega), up_n _ (by omega)]
  have RR := RD_of (E := E) hb hh ht O eo (by rw [eE, up_n _ (by omega), up_s]) (by rw [eE, up_s])
  obtain ⟨Hd1, Kc, Km, Sg, l25, le0⟩ := id O
  have hM := Km.1
  have d125 : D 0 5 = 125 := by rw [R.2.2.2.2.1, si]; decide
  have d8 := R.2.2.2.2.2.2.2
  have base0 := Kc.2.2.2.1.1
  have run : ∀ k' : St → Prop, wX8_close D t (fun S_3 => wX8_readType_328 S_3 k') → wX8_readType_292 D t k' := by
    intro k' hk
    unfold wX8_readType_292
    refine wlp_exit (fun P => ?_)
    show wX8_readType_292_b D t (fun b0 => P b0) k'
    have e316 : wX8_readType_316 D t k' := by
      unfold wX8_readType_316 wX8_goesOn wX8_goesOn_0
      exact ⟨fun z => absurd d8 z, fun _ => ⟨fun z => absurd z (by decide), fun _ => hk⟩⟩
    unfold wX8_readType_292_b wX8_goesOn wX8_goesOn_0
    exact ⟨fun z => absurd d8 z, fun _ => ⟨fun z => absurd z (by decide), fun _ => ⟨fun _ => e316, fun z => absurd d125 z⟩⟩⟩
  unfold wX4_closeType wX4_closeType_0
  intro x ex
  rw [Hd1.1.1.1] at ex
  rw [ex]
  refine ⟨isO_b hb, fun y ey => ?_⟩
  rw [Hd1.1.1.2.2.2.2] at ey
  rw [ey]
  refine ⟨isO_t hb ht, J_close RR d8 eE (fun f S1 D1 hf oE oF g8 g9 rc => ⟨fun z => by omega, fun _ => ?_⟩) (fun S1 D1 cl rc => ⟨fun _ S2 e2 => ?_, fun z => absurd rfl z⟩)⟩
  · have f1 : 1 ≤ f := by omega
    clear hf
    have C1 : CTk N so va pl S1 i := C.off (fun a j g => by rw [oE a j (by omega) (by omega) (by omega) (by omega)]; exact eo a j (by omega))
    refine C_fl N4 C1 (fun S2 g2 => ⟨Or.inl rfl, h0 S2 D1 ⟨f, pl i, f1, g2.1, g2.2.1, g8, by rw [g9]; exact R.2.2.2.2.2.1, ⟨fun a j w1 w2 => ?_, fun u u0 u1 => ?_⟩, fun a j g => ?_, fun w j => ?_⟩ (fun k' hk => run k' (rc _ ?_))⟩)
    · rw [g2.2.2 _ _ (by omega), oE a j (by omega) (by omega) (by omega) (by omega)]; exact eo a j (by omega)
    · rw [g2.2.2 _ _ (by unfold ty; omega), oE _ _ (by unfold ty; omega) (by omega) (by unfold ty; omega) (by unfold ty; omega)]; exact eo _ _ (by unfold ty; omega)
    · refine oF a j (fun w => g (inH_rwA ht w)) (fun w => g (inH_34 ⟨hM.1, hM.2.2⟩ w)) (fun w => g (Or.inl ⟨w.1, by clear g; omega⟩))
    · rw [oF 33 j (by unfold rwA; omega) (by omega) (by omega)]; exact w j
    · unfold wX8_readType_328 wX8_goesOn wX8_goesOn_0
      exact ⟨fun _ => ⟨fun _ => hk, fun z => absurd rfl z⟩, fun z => by omega⟩
  · obtain ⟨base', bb, Kc1, rm1, rg1, ⟨c7, c5⟩, fS, fD⟩ := cl
    have oS : ∀ a j, ¬ (b ≤ a ∧ a < b + 513) → ¬ (1034 ≤ a ∧ a ≤ 1036) → S1 a j = S a j := fun a j g1 g2 => by rw [fS a j (by omega) (by omega) (by omega) (by omega) (by unfold ty; omega) (by unfold ty; omega) (by unfold ty; omega) (by omega) (by omega) (by omega)]; exact eo a j (by omega)
    have C2 : CTk N so va pl S2 i := C.off (fun a j g => by rw [e2, up_n _ (by omega)]; exact oS a j (by omega) (by omega))
    have r1 : RTk T n te so va pl D1 i := R.off (fun a j g => fD a j (rwC_no (by omega)))
    obtain ⟨D2, ed2⟩ : ∃ D2, D2 = up D1 3 h (t + 1) := ⟨_, rfl⟩
    have r2 : RTk T n te so va pl D2 i := r1.off (fun a j g => by rw [ed2, up_n _ (by omega)])
    obtain ⟨D3, ⟨r3, o3⟩, n3⟩ := R_nx K C.1 r2 (by omega)
    have d3a : ∀ a j, ¬ (a = 0 ∧ 4 ≤ j ∧ j ≤ 7) → ¬ (a = 3 ∧ j = h) → D3 a j = D1 a j := fun a j g1 g2 => by rw [o3 a j g1, ed2, up_n _ (by omega)]
    have d3f : ∀ a, 4 ≤ a → D3 a = D1 a := fun a g => funext (fun j => d3a a j (by omega) (by omega))
    have d1h : D1 0 10 = h := by rw [fD _ _ (rwC_no (by omega))]; exact Hd1.1.1.2.1
    have d13 : D1 3 h = t := by rw [fD _ _ (rwC_no (by omega))]; exact Hd1.1.1.2.2.2.1
    have d18 : D1 0 8 = 0 := r1.2.2.2.2.2.2.2
    refine C_adv K C2 (by omega) (fun S3 a3 C3 => ?_)
    have s3 : ∀ a j, ¬ (a = 1032 ∧ ((4 ≤ j ∧ j ≤ 6) ∨ j = 11)) → S3 a j = S1 a j := fun a j g => by rw [a3 a j (by omega), e2, up_n _ (by omega)]
    have fx : ∀ a, 8 ≤ a → a ≤ 36 → D3 a = D1 a := fun a g _ => d3f a (by omega)
    have Kc3 : RDc S3 b D3 h (t + 1) M1 base' := RDc_tr (by omega) hM.2.2 (AgR_all fx) (by omega) (fun a j g1 g2 => s3 a j (by unfold ty at g2; omega)) Kc1
    have eD : ∀ a, (8 ≤ a ∧ a ≤ 19) ∨ (28 ≤ a ∧ a ≤ 33) → D1 a = D a := fun a g => funext (fun j => fD a j (rwC_no (by omega)))
    have mS : ∀ q c j, 0 ≤ q → q < M1 → 0 ≤ c → c ≤ 2 → S3 (me b q + c) j = S (me b q + c) j := fun q c j q0 q1 c0 c1 => by rw [s3 _ _ (by unfold me; omega), fS _ _ (by unfold me; omega) (by unfold me; omega) (by unfold me; omega) (by unfold me; omega) (by unfold me ty; omega) (by unfold me ty; omega) (by unfold me ty; omega) (by unfold me; omega) (by unfold me; omega) (by unfold me; omega)]; exact eo _ _ (by unfold me; omega)
    have rmA := rMs_E (E := S3) mS Km.2.2.1 Km.2.2.2.1 Sg
    have rmB := rMs_D (D' := D3) ((d3f 15 (by decide)).trans (eD 15 (by decide))) (fun a g1 g2 => (d3f a (by omega)).trans (eD a (by omega))) rmA.1 rmA.2.1 rmA.2.2
    have le3 : LE33 D3 := fun j => by rw [d3f 33 (by decide), eD 33 (by decide)]; exact le0 j
    have b3 : S3 b 3 = M1 := by rw [s3 _ _ (by omega), fS _ _ (by omega) (by omega) (by omega) (by omega) (by unfold ty; omega) (by unfold ty; omega) (by unfold ty; omega) (by omega) (by omega) (by omega), eo _ _ (by omega)]; exact Km.2.2.2.2.1.2.2.1
    have b1 : S3 b 1 = t + 1 := by rw [s3 _ _ (by omega), fS _ _ (by omega) (by omega) (by omega) (by omega) (by unfold ty; omega) (by unfold ty; omega) (by unfold ty; omega) (by omega) (by omega) (by omega), eo _ _ (by omega)]; exact Hd1.1.1.2.2.1
    refine h1 S3 D3 base' C3 r3 ⟨⟨⟨?_, ?_, b1, ?_⟩, by omega, by omega⟩, fun u v u0 u1 u2 => ?_, Kc3, rmB, ⟨⟨b3, ?_⟩, ?_, ?_⟩, ⟨by omega, hM.2.2⟩, le3⟩ ?_ ⟨funext (fun j => ?_), ?_, ?_, ?_, ?_⟩ ⟨?_, funext (fun j => ?_), ?_, ?_⟩ ⟨fun a j g1 g2 => ?_, fun u u0 u1 => ?_⟩ ⟨fun a j g => ?_, fun _ => le3⟩ (fun k' hk => run k' (rc _ ?_))
    · rw [s3 _ _ (by omega), oS _ _ (by omega) (by omega)]; exact Hd1.1.1.1
    · rw [d3a _ _ (by omega) (by omega)]; exact d1h
    · rw [o3 _ _ (by omega), ed2, up_s]
    · rw [d3f 8 (by decide), eD 8 (by decide)]; exact Hd1.1.2.2 u v u0 u1 (by omega)
    · rw [s3 _ _ (by omega)]; exact c7
    · rw [d3a _ _ (by omega) (by omega), fD _ _ (rwC_no (by omega))]; exact Km.2.2.2.2.2.2.2.1
    · rw [d3a _ _ (by omega) (by omega)]; exact c5
    · rw [a3 _ _ (by omega), e2, up_s]
    · rw [s3 _ _ (by omega), oS _ _ (by omega) (by omega)]
    · rw [s3 _ _ (by omega), fS _ _ (by omega) (by omega) (by omega) (by omega) (by unfold ty; omega) (by unfold ty; omega) (by unfold ty; omega) (by omega) (by omega) (by omega), eo _ _ (by omega)]
    · rw [s3 _ _ (by omega), oS _ _ (by omega) (by omega)]
    · rw [s3 _ _ (by omega), oS _ _ (by omega) (by omega)]
    · rw [s3 _ _ (by omega), oS _ _ (by omega) (by omega)]
    · rw [d3a _ _ (by omega) (by omega), fD _ _ (rwC_no (by omega))]
    · rw [d3a _ _ (by omega) (by omega), fD _ _ (rwC_no (by omega))]
    · rw [d3a _ _ (by omega) (by omega), fD _ _ (rwC_no (by omega))]
    · rw [d3a _ _ (by omega) (by omega), fD _ _ (rwC_no (by omega))]
    · rw [s3 _ _ (by omega)]; exact oS a j g1 (by omega)
    · rw [s3 _ _ (by unfold ty; omega), fS _ _ (by unfold ty; omega) (by unfold ty; omega) (by unfold ty; omega) (by unfold ty; omega) (by omega) (by unfold ty; omega) (by unfold ty; omega) (by unfold ty; omega) (by unfold ty; omega) (by unfold ty; omega)]; exact eo _ _ (by unfold ty; omega)
    · rw [d3a a j (fun w => g (Or.inl ⟨w.1, by clear g; omega⟩)) (fun w => g (Or.inr (Or.inl (by clear g; omega))))]
      exact fD a j (fun w => g (inH_rwC ht ⟨hM.1, hM.2.2⟩ base0 w))
    · unfold wX8_readType_328 wX8_goesOn wX8_goesOn_0
      rw [d1h, d13, w32_eq (by omega) (by omega)]
      refine ⟨fun z => absurd d18 z, fun _ => ⟨fun z => absurd z (by decide), fun _ => ⟨by omega, by omega, fun A ea => ?_⟩⟩⟩
      rw [ea, ← ed2]
      exact n3 _ hk
end CType
