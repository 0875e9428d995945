/-! pure: reading: a type's NAME, both together -/
def nmR (D : St) (t c f : Int) (k : St → Prop) : Prop := wX8_is D 2 (fun x_3 => (¬ x_3 = 0 → wX8_readType_106 D t c f 0 k) ∧ (x_3 = 0 → wX8_odd D (fun S_6 => k S_6)))
section TName2
variable {T te so va pl : Int → Int} {n N i j b h t : Int} {S SR : St}
theorem J_tname {f : Int} {k : Int → St → Prop} (hb : b = 2 ∨ b = 515) (hh : half01 h) (ht : 0 ≤ t ∧ t < 24) (K : Tks T n N te so va pl) (C : CTk N so va pl S j) (R : RTk T n te so va pl SR j) (e3 : S 1032 3 = b) (c12 : S 1032 12 = ty b t) (c1 : S b 1 = t) (hD : SR 0 10 = h) (nm : ∀ u, 0 ≤ u → u < t → S (ty b u) 1 = SR 8 (24 * h + u))
    (h1 : ∀ S' R' D', ¬ dup SR h t (va j) → CTk N so va pl S' (j + 1) → RTk T n te so va pl R' (j + 1) → S' (ty b t) 1 = va j → S' b 1 = t + 1 → S' 1032 11 = 1 → (∀ a x, ¬ (a = 1032 ∧ ((4 ≤ x ∧ x ≤ 6) ∨ x = 11)) → ¬ (a = b ∧ x = 1) → ¬ (a = ty b t ∧ x = 1) → S' a x = S a x) → setR SR D' h t (va j) f → offN D' R' → (∀ k : St → Prop, RKn R' t f k → nmR SR t (24 * h + t) f k) → k 1 S')
    (h0 : ∀ S' R' fl p, 1 ≤ fl → FLc S S' fl p → FLr SR R' fl p → (∀ k : St → Prop, k R' → nmR SR t (24 * h + t) f k) → k 0 S') : wX4_readTypeName S k := by
  have N4 := K.1.2
  have t1 := K.2.2.1 j C.1.1 C.1.2
  have c7 := C.2.2.2.2.2.2.1
  have c8 := C.2.2.2.2.2.2.2
  unfold wX4_readTypeName wX4_readTypeName_0
  rw [c7]
  refine ⟨fun z => ?_, fun z => ?_⟩
  · have v7 := R.2.2.2.2.2.2.1 (Or.inl z)
    have r6 := R.2.2.2.2.2.1
    have pre : ∀ k' : St → Prop, wX8_readType_106 SR t (24 * h + t) f 0 k' → nmR SR t (24 * h + t) f k' := by
      intro k' g
      unfold nmR
      exact R_isS R t1.2.1 (x := 2) (by unfold srtOK; omega) (by decide) (fun w => ⟨fun _ => g, fun q => absurd q (by decide)⟩) (fun w => absurd z w)
    refine C_dup (D := SR) (h := h) hb ⟨ht.1, by omega⟩ e3 c1 nm (fun w => ?_) (fun w x ex => ?_)
    · rw [c8] at w
      obtain ⟨R', g, r⟩ := R_fl (S := SR) (f := 3) (p := pl j) R.2.2.2.2.2.2.2
      refine C_fl N4 C (fun S' g' => ⟨Or.inl rfl, h0 S' R' 3 (pl j) (by decide) g' g (fun k' hk => pre k' (R_dup hh hD ht (fun _ => by rw [r6]; exact r _ hk) (fun u => absurd w (by rw [← v7]; exact u))))⟩)
    · rw [c8] at w ⊢
      rw [c12] at ex
      rw [ex]
      refine ⟨isO_t hb ht, fun S1 e1 y ey => ?_⟩
      have p3 : S1 1032 3 = b := by rw [e1, up_n _ (by unfold ty; omega)]; exact e3
      have p1 : S1 b 1 = t := by rw [e1, up_n _ (by unfold ty; omega)]; exact c1
      rw [p3] at ey
      rw [ey, p1, w32_eq (by omega) (by omega)]
      refine ⟨isO_b hb, fun S2 e2 S3 e3' => ?_⟩
      have C3 : CTk N so va pl S3 j := C.off (fun a x g => by rw [e3', up_n _ (by omega), e2, up_n _ (by omega), e1, up_n _ (by unfold ty; omega)])
      obtain ⟨D', sr, run⟩ := R_set (f := f) hh hD ht
      rw [v7] at sr
      have rD : RTk T n te so va pl D' j := R.off (fun a x g => sr.2.2 a x (by omega))
      obtain ⟨R4, ⟨r4, o4⟩, n4⟩ := R_nx K C3.1 rD (by omega)
      refine C_adv K C3 (by omega) (fun S4 a4 C4 => h1 S4 R4 D' w C4 r4 ?_ ?_ ?_ (fun a x g1 g2 g3 => ?_) sr o4 (fun k' hk => pre k' (R_dup hh hD ht (fun u => absurd (by rw [← v7]; exact u) w) (fun _ P => run k' P (n4 _ hk)))))
      · rw [a4 _ _ (by unfold ty; omega), e3', up_n _ (by unfold ty; omega), e2, up_n _ (by unfold ty; omega), e1, up_s]
      · rw [a4 _ _ (by omega), e3', up_n _ (by omega), e2, up_s]
      · rw [a4 _ _ (by omega), e3', up_s]
      · rw [a4 _ _ (by omega), e3', up_n _ (by omega), e2, up_n _ (by omega), e1, up_n _ (by omega)]
  · obtain ⟨R2, f2, n2⟩ := R_od R t1.2.1
    refine C_misf N4 C (fun S2 g2 => ⟨Or.inl rfl, h0 S2 R2 _ _ (msf_pos _) g2 f2 (fun k' hk => ?_)⟩)
    unfold nmR
    exact R_isS R t1.2.1 (x := 2) (by unfold srtOK; omega) (by decide) (fun w => absurd w z) (fun w => ⟨fun q => absurd rfl q, fun _ => n2 _ hk⟩)
end TName2
