/-! pure: reading: VARS, both together -/
section Vars
variable {T te so va pl : Int → Int} {n N i b h t q : Int} {S D : St}
theorem C_rv {k : Int → St → Prop} (hb : b = 2 ∨ b = 515) (ht : 0 ≤ t ∧ t < 24) (K : Tks T n N te so va pl) (C : CTk N so va pl S i) (si : so i = 2) (q2 : 0 ≤ q ∧ q < 2) (c12 : S 1032 12 = ty b t) (c0 : S (ty b t) 0 = t)
    (hn : ∀ kk : Int → Prop, kk (-1) → wX6_varNamed S (ty b t) (va i) kk)
    (h1 : ∀ S', CTk N so va pl S' (i + 1) → VC S S' b t q (va i) (-1) → k 1 S') : wX4_readVar S q k := by
  have it := isO_t hb ht
  unfold wX4_readVar wX4_readVar_0
  rw [C.2.2.2.2.2.2.1, C.2.2.2.2.2.2.2, c12]
  refine ⟨fun _ x ex => ?_, fun z => absurd si z⟩
  rw [ex]
  refine ⟨it, hn _ ⟨fun _ y ey => ?_, fun z => absurd rfl z⟩⟩
  rw [ey]
  refine ⟨it, q2, fun S1 e1 x1 ex1 => ?_⟩
  have s1 : S1 1032 12 = ty b t := by rw [e1, up_n _ (by unfold ty; omega)]; exact c12
  rw [s1] at ex1
  rw [ex1]
  refine ⟨it, q2, fun S2 e2 x2 ex2 => ?_⟩
  have s2 : S2 1032 12 = ty b t := by rw [e2, up_n _ (by unfold ty; omega)]; exact s1
  rw [s2] at ex2
  rw [ex2]
  refine ⟨it, fun x3 ex3 => ?_⟩
  rw [s2] at ex3
  have s20 : S2 (ty b t) 0 = t := by rw [e2, up_n _ (by omega), e1, up_n _ (by omega)]; exact c0
  rw [ex3, s20]
  refine ⟨it, ?_⟩
  unfold wX6_setArgument wX6_setArgument_0
  rw [w32_eq (x := t * 2) (by omega) (by omega), w32_eq (x := t * 2 + q) (by omega) (by omega), w32_eq (x := 100 + q) (by omega) (by omega), w32_eq (x := q + 1) (by omega) (by omega)]
  refine ⟨by omega, fun S3 e3 x4 ex4 => ?_⟩
  have s3 : S3 1032 12 = ty b t := by rw [e3, up_n _ (by unfold ty; omega)]; exact s2
  rw [s3] at ex4
  rw [ex4]
  refine ⟨it, fun S4 e4 => ?_⟩
  have C4 : CTk N so va pl S4 i := C.off (fun a j g => by rw [e4, up_n _ (by unfold ty; omega), e3, up_n _ (by unfold ty; omega), e2, up_n _ (by unfold ty; omega), e1, up_n _ (by unfold ty; omega)])
  refine C_adv K C4 (by omega) (fun S5 a5 C5 => h1 S5 C5 ⟨⟨?_, ?_, ?_, ?_⟩, fun a j g1 g2 g3 g4 g5 => ?_⟩)
  · rw [a5 _ _ (by unfold ty; omega), e4, up_s]
  · rw [a5 _ _ (by unfold ty; omega), e4, up_n _ (by omega), e3, up_n _ (by omega), e2, up_n _ (by omega), e1, up_s]
  · rw [a5 _ _ (by unfold ty; omega), e4, up_n _ (by omega), e3, up_n _ (by omega), e2, up_s]
  · rw [a5 _ _ (by unfold ty; omega), e4, up_n _ (by omega), e3, show 2 * t + q = t * 2 + q by omega, up_s]
  · rw [a5 _ _ g1, e4, up_n _ (by omega), e3, up_n _ (by omega), e2, up_n _ (by omega), e1, up_n _ (by omega)]
theorem VC_bd {S' : St} {v bd x j1 : Int} (w : VC S S' b t q v x) {S2 : St} (e : ∀ a j, ¬ (a = 1032 ∧ 4 ≤ j ∧ j ≤ 6) → ¬ (a = ty b t + 2 ∧ j = q) → S2 a j = S' a j) (e2 : S2 (ty b t + 2) q = bd) (hb : b = 2 ∨ b = 515) (ht : 0 ≤ t ∧ t < 24) : VC S S2 b t q v bd := by
  obtain ⟨⟨w1, w2, w3, w4⟩, w5⟩ := w
  refine ⟨⟨?_, ?_, e2, ?_⟩, fun a j g1 g2 g3 g4 g5 => ?_⟩
  · rw [e _ _ (by unfold ty; omega) (by omega)]; exact w1
  · rw [e _ _ (by unfold ty; omega) (by omega)]; exact w2
  · rw [e _ _ (by unfold ty; omega) (by omega)]; exact w4
  · rw [e _ _ g1 g4]; exact w5 a j g1 g2 g3 g4 g5
theorem VR_bd {D' : St} {v bd x : Int} (w : VR D D' h t q v x) {D2 : St} (e : ∀ a j, ¬ (a = 0 ∧ 4 ≤ j ∧ j ≤ 7) → ¬ (a = 15 ∧ j = 2 * (24 * h + t) + q) → D2 a j = D' a j) (e2 : D2 15 (2 * (24 * h + t) + q) = bd) : VR D D2 h t q v bd := by
  obtain ⟨⟨w1, w2, w3⟩, w5⟩ := w
  refine ⟨⟨?_, ?_, e2⟩, fun a j g1 g2 g3 => ?_⟩
  · rw [e _ _ (by omega) (by omega)]; exact w1
  · rw [e _ _ (by omega) (by omega)]; exact w2
  · rw [e _ _ g1 (by omega)]; exact w5 a j g1 g2 g3
theorem J_var {kA k0 : St → Prop} (hb : b = 2 ∨ b = 515) (hh : half01 h) (ht : 0 ≤ t ∧ t < 24) (K : Tks T n N te so va pl) (C : CTk N so va pl S i) (R : RTk T n te so va pl D i) (H : Hd S b D h t) (z16 : D 16 (24 * h + t) = 0) (ek : D 13 (24 * h + t) = q) (q2 : q < 2)
    (h1 : ∀ S' D' j, i < j → CTk N so va pl S' j → RTk T n te so va pl D' j → fCt S S' b t → fRt D D' h t → Hd S' b D' h t → D' 16 (24 * h + t) = 0 → D' 13 (24 * h + t) = q + 1 → (∀ (P : Int → St → Prop) (k' : St → Prop), wX8_readVars_172 D' t (24 * h + t) P k' → wX8_readVars_12_b D t (24 * h + t) 1 P k') → kA S')
    (h0 : ∀ S' D', FO S D b h S' D' → (∀ (P : Int → St → Prop) (k' : St → Prop), k' D' → wX8_readVars_12_b D t (24 * h + t) 1 P k') → k0 S') :
    wX4_readVar S q (fun x S_3 => (x = 0 → k0 S_3) ∧ (¬ x = 0 → wX4_readBound S_3 q (fun y S_6 => (¬ y = 0 → kA S_6) ∧ (y = 0 → k0 S_6)))) := by
  have N4 := K.1.2
  have h01 : 0 ≤ h ∧ h ≤ 1 := by unfold half01 at hh; omega
  obtain ⟨Hc1, dv, Kt⟩ := id H
  obtain ⟨⟨e3, hD, c1, d3, c12⟩, Hu, ds⟩ := id Hc1
  have v2 := Kt.2.2.1.1
  have q0 : 0 ≤ q := by omega
  have t1 := K.2.2.1 i C.1.1 C.1.2
  have nv : ∀ u, 0 ≤ u → u < D 13 (24 * h + t) → S (ty b t + 1) u = D 14 (2 * (24 * h + t) + u) := fun u u0 u1 => (Kt.1.2.2.2.2.2.2.2 u u0 u1).1
  have c6 : S (ty b t) 6 = D 13 (24 * h + t) := Kt.1.2.2.2.2.2.2.1
  by_cases si : so i = 2
  · have d7 := R.2.2.2.2.2.2.1 (Or.inl si)
    -- the reference, in front
    have pre : ∀ (P : Int → St → Prop) (k' : St → Prop), wX8_varNamed D (va i) t (fun x_8 => (x_8 < 0 → (0 ≤ 24 * h + t ∧ 24 * h + t < 48) ∧ (∀ x_15 : Int, x_15 = 2 * (24 * h + t) + q → (0 ≤ x_15 ∧ x_15 < 96) ∧ (∀ S_18 : St, S_18 = up D 14 x_15 (va i) → (0 ≤ x_15 ∧ x_15 < 96) ∧ (∀ S_21 : St, S_21 = up S_18 15 x_15 (-1) → (0 ≤ 24 * h + t ∧ 24 * h + t < 48) ∧ ((0 ≤ 24 * h + t ∧ 24 * h + t < 48) ∧ (∀ S_26 : St, S_26 = up S_21 13 (24 * h + t) (w32 (S_21 13 (24 * h + t) + 1)) → wX8_next S_26 (fun S_27 => wX8_is S_27 15 (fun x_29 => (x_29 = 0 → wX8_readVars_172 S_27 t (24 * h + t) P k') ∧ (¬ x_29 = 0 → wX8_next S_27 (fun S_31 => wX8_is S_31 2 (fun x_33 => (x_33 = 0 → wX8_readVars_130 S_31 t (24 * h + t) x_15 (-1) P k') ∧ (¬ x_33 = 0 → wX8_seenType S_31 (S_31 0 7) t (fun x_37 => wX8_readVars_130 S_31 t (24 * h + t) x_15 x_37 P k'))))))))))))) ∧ (0 ≤ x_8 → wX8_fails D 3 (D 0 6) (fun S_40 => k' S_40))) → wX8_readVars_12_b D t (24 * h + t) 1 P k' := by
      intro P k' hk
      unfold wX8_readVars_12_b
      refine ⟨fun z => absurd z (by decide), fun _ => R_isS R t1.2.1 (x := 2) (by unfold srtOK; omega) (by decide) (fun w => ⟨fun _ => ?_, fun z => absurd z (by decide)⟩) (fun w => absurd si w)⟩
      rw [ek, d7, w32_eq (x := 2 * (24 * h + t)) (by omega) (by omega), w32_eq (x := 2 * (24 * h + t) + q) (by omega) (by omega)]
      exact hk
    by_cases ex : ∀ r, ¬ vnm D h t (va i) r
    · -- a new VAR
      obtain ⟨D1, e1⟩ : ∃ D1, D1 = up (up (up D 14 (2 * (24 * h + t) + q) (va i)) 15 (2 * (24 * h + t) + q) (-1)) 13 (24 * h + t) (q + 1) := ⟨_, rfl⟩
      have r1 : RTk T n te so va pl D1 i := R.off (fun a j g => by rw [e1, up_n _ (by omega), up_n _ (by omega), up_n _ (by omega)])
      obtain ⟨D2, ⟨r2, o2⟩, n2⟩ := R_nx K C.1 r1 (by omega)
      have w2 : VR D D2 h t q (va i) (-1) := by
        refine ⟨⟨?_, ?_, ?_⟩, fun a j g1 g2 g3 => ?_⟩
        · rw [o2 _ _ (by omega), e1, up_s]
        · rw [o2 _ _ (by omega), e1, up_n _ (by omega), up_n _ (by omega), up_s]
        · rw [o2 _ _ (by omega), e1, up_n _ (by omega), up_s]
        · rw [o2 _ _ (by omega), e1, up_n _ (by omega), up_n _ (by omega), up_n _ (by omega)]
      have run : ∀ (P : Int → St → Prop) (k' : St → Prop), wX8_is D2 15 (fun x_29 => (x_29 = 0 → wX8_readVars_172 D2 t (24 * h + t) P k') ∧ (¬ x_29 = 0 → wX8_next D2 (fun S_31 => wX8_is S_31 2 (fun x_33 => (x_33 = 0 → wX8_readVars_130 S_31 t (24 * h + t) (2 * (24 * h + t) + q) (-1) P k') ∧ (¬ x_33 = 0 → wX8_seenType S_31 (S_31 0 7) t (fun x_37 => wX8_readVars_130 S_31 t (24 * h + t) (2 * (24 * h + t) + q) x_37 P k')))))) → wX8_readVars_12_b D t (24 * h + t) 1 P k' := by
        intro P k' hk
        refine pre P k' (R_vn hh hD ht v2 dv (fun r w => absurd w (ex r)) (fun _ => ⟨fun _ => ⟨by omega, fun x ex => ?_⟩, fun z => absurd z (by decide)⟩))
        rw [ex]
        refine ⟨by omega, fun A ea => ⟨by omega, fun B eb => ⟨by omega, by omega, fun Z ez => ?_⟩⟩⟩
        have : Z = D1 := by rw [ez, eb, ea, e1, up_n _ (by omega), up_n _ (by omega), ek, w32_eq (by omega) (by omega)]
        rw [this]
        exact n2 _ hk
      refine C_rv hb ht K C si ⟨q0, q2⟩ c12 Kt.1.1 (fun kk hk => C_vn v2 c6 nv (fun r w => absurd w (ex r)) (fun _ => hk)) (fun S2 C2 cw => ⟨fun z => absurd z (by decide), fun _ => ?_⟩)
      have fin : ∀ S' D' j bd, i < j → (-1 ≤ bd ∧ bd ≤ t) → CTk N so va pl S' j → RTk T n te so va pl D' j → VC S S' b t q (va i) bd → VR D D' h t q (va i) bd → (∀ (P : Int → St → Prop) (k' : St → Prop), wX8_readVars_172 D' t (24 * h + t) P k' → wX8_readVars_12_b D t (24 * h + t) 1 P k') → kA S' := by
        intro S' D' j bd ij hbd C' r' cw' rw' run'
        refine h1 S' D' j ij C' r' (fCt_VC q0 cw') (fRt_VR ⟨q0, q2⟩ rw') (Hd_var hb ht H z16 ek q2 ex hbd cw' rw') ?_ rw'.1.1 run'
        rw [rw'.2 _ _ (by omega) (by omega) (by omega)]; exact z16
      have t2 := K.2.2.1 (i + 1) C2.1.1 C2.1.2
      have H2 := Hd_var hb ht H z16 ek q2 ex ⟨Int.le_refl _, by omega⟩ cw w2
      unfold wX4_readBound wX4_readBound_0
      rw [C2.2.2.2.2.2.2.1]
      refine ⟨fun si2 => ?_, fun si2 => ⟨fun _ => ?_, fun z => absurd z (by decide)⟩⟩
      rotate_left
      · exact fin S2 D2 (i + 1) (-1) (by omega) ⟨Int.le_refl _, by omega⟩ C2 r2 cw w2 (fun P k' hk => run P k' (R_isS r2 t2.2.1 (x := 205) (by unfold srtOK; omega) (by decide) (fun w => absurd w si2) (fun w => ⟨fun _ => hk, fun z => absurd rfl z⟩)))
      · obtain ⟨D3, ⟨r3, o3⟩, n3⟩ := R_nx K C2.1 r2 (by omega)
        have run3 : ∀ (P : Int → St → Prop) (k' : St → Prop), wX8_is D3 2 (fun x_33 => (x_33 = 0 → wX8_readVars_130 D3 t (24 * h + t) (2 * (24 * h + t) + q) (-1) P k') ∧ (¬ x_33 = 0 → wX8_seenType D3 (D3 0 7) t (fun x_37 => wX8_readVars_130 D3 t (24 * h + t) (2 * (24 * h + t) + q) x_37 P k'))) → wX8_readVars_12_b D t (24 * h + t) 1 P k' := fun P k' hk => run P k' (R_isS r2 t2.2.1 (x := 205) (by unfold srtOK; omega) (by decide) (fun w => ⟨fun z => absurd z (by decide), fun _ => n3 _ hk⟩) (fun w => absurd si2 w))
        refine C_adv K C2 (by omega) (fun S3 a3 C3 => ?_)
        have t3 := K.2.2.1 (i + 1 + 1) C3.1.1 C3.1.2
        have cw3 : VC S S3 b t q (va i) (-1) := VC_bd (j1 := 0) cw (fun a j g _ => a3 a j g) (by rw [a3 _ _ (by unfold ty; omega)]; exact cw.1.2.2.1) hb ht
        have w3 : VR D D3 h t q (va i) (-1) := VR_bd w2 (fun a j g _ => o3 a j g) (by rw [o3 _ _ (by omega)]; exact w2.1.2.2)
        have H3 := Hd_var hb ht H z16 ek q2 ex ⟨Int.le_refl _, by omega⟩ cw3 w3
        have fo : ∀ S' D' f, 1 ≤ f → FLc S3 S' f (pl (i + 1 + 1)) → FLr D3 D' f (pl (i + 1 + 1)) → FO S D b h S' D' := fun S' D' f f1 g g' => FO_mk hb f1 (offFam_t hb ht (fCt_VC q0 cw3)) (offH_t ht (fRt_VR ⟨q0, q2⟩ w3)) g g'
        rw [C3.2.2.2.2.2.2.1, C3.2.2.2.2.2.2.2]
        refine ⟨fun si3 => ?_, fun si3 => ?_⟩
        · have d7' := r3.2.2.2.2.2.2.1 (Or.inl si3)
          refine C_tsn (h := h) (D := D3) hb ht H3.1.1.1 H3.1.1.2.2.1 H3.1.1.2.2.2.2 (Hc_nm H3.1 H3.2.2.1) H3.1.2.2 (fun r g => ⟨fun _ x ex' => ?_, fun z => ?_⟩) (fun g => ⟨fun z => absurd rfl z, fun _ => ?_⟩)
          · rw [H3.1.1.2.2.2.2] at ex'
            rw [ex']
            refine ⟨isO_t hb ht, ⟨q0, q2⟩, fun S4 e4 => ?_⟩
            have C4 : CTk N so va pl S4 (i + 1 + 1) := C3.off (fun a j g => by rw [e4, up_n _ (by unfold ty; omega)])
            obtain ⟨D4, e4'⟩ : ∃ D4, D4 = up D3 15 (2 * (24 * h + t) + q) r := ⟨_, rfl⟩
            have r4 : RTk T n te so va pl D4 (i + 1 + 1) := r3.off (fun a j g => by rw [e4', up_n _ (by omega)])
            obtain ⟨D5, ⟨r5, o5⟩, n5⟩ := R_nx K C4.1 r4 (by omega)
            refine C_adv K C4 (by omega) (fun S5 a5 C5 => ⟨fun _ => ?_, fun z => absurd z (by decide)⟩)
            have rb := g.1
            refine fin S5 D5 (i + 1 + 1 + 1) r (by omega) (by omega) C5 r5 (VC_bd (j1 := 0) cw3 (fun a j g1 g2 => ?_) ?_ hb ht) (VR_bd w3 (fun a j g1 g2 => ?_) ?_) (fun P k' hk => run3 P k' (R_isS r3 t3.2.1 (x := 2) (by unfold srtOK; omega) (by decide) (fun w => ⟨fun z => absurd z (by decide), fun _ => ?_⟩) (fun w => absurd si3 w)))
            · rw [a5 _ _ g1, e4, up_n _ (by omega)]
            · rw [a5 _ _ (by unfold ty; omega), e4, up_s]
            · rw [o5 _ _ g1, e4', up_n _ (by omega)]
            · rw [o5 _ _ (by omega), e4', up_s]
            · rw [d7']
              refine R_tsn hh H3.1.1.2.1 ht H3.1.2.2 (fun r' g' => ?_) (fun g' => absurd ⟨r, g⟩ g')
              rw [seT_one H3.1.2.2 g' g]
              unfold wX8_readVars_130
              refine ⟨fun _ => ⟨by omega, fun A ea => ?_⟩, fun z => by omega⟩
              rw [ea, ← e4']
              exact n5 _ hk
          · have := g.1.1; omega
          · obtain ⟨R4, f4, n4⟩ := R_fl (S := D3) (f := 3) (p := pl (i + 1 + 1)) r3.2.2.2.2.2.2.2
            refine C_fl N4 C3 (fun S4 g4 => ⟨Or.inl rfl, fun z => absurd rfl z, fun _ => h0 S4 R4 (fo _ _ _ (by decide) g4 f4) (fun P k' hk => run3 P k' (R_isS r3 t3.2.1 (x := 2) (by unfold srtOK; omega) (by decide) (fun w => ⟨fun z => absurd z (by decide), fun _ => ?_⟩) (fun w => absurd si3 w)))⟩)
            rw [d7']
            refine R_tsn hh H3.1.1.2.1 ht H3.1.2.2 (fun r' g' => absurd ⟨r', g'⟩ g) (fun g' => ?_)
            unfold wX8_readVars_130 wX8_readVars_154
            refine ⟨fun z => absurd z (by decide), fun _ => R_isS r3 t3.2.1 (x := 2) (by unfold srtOK; omega) (by decide) (fun w => ⟨fun z => absurd z (by decide), fun _ => ?_⟩) (fun w => absurd si3 w)⟩
            rw [r3.2.2.2.2.2.1]
            exact n4 _ (R_odd_no (by rw [f4.1]; decide) hk)
        · obtain ⟨R4, f4, n4⟩ := R_od r3 t3.2.1
          refine C_misf N4 C3 (fun S4 g4 => ⟨Or.inl rfl, fun z => absurd rfl z, fun _ => h0 S4 R4 (fo _ _ _ (msf_pos _) g4 f4) (fun P k' hk => run3 P k' (R_isS r3 t3.2.1 (x := 2) (by unfold srtOK; omega) (by decide) (fun w => absurd w si3) (fun w => ⟨fun _ => ?_, fun z => absurd rfl z⟩)))⟩)
          unfold wX8_readVars_130 wX8_readVars_154
          exact ⟨fun z => absurd z (by decide), fun _ => R_isS r3 t3.2.1 (x := 2) (by unfold srtOK; omega) (by decide) (fun w => absurd w si3) (fun w => ⟨fun _ => n4 _ hk, fun z => absurd rfl z⟩)⟩
    · -- a VAR twice
      obtain ⟨R', f', n'⟩ := R_fl (S := D) (f := 3) (p := pl i) R.2.2.2.2.2.2.2
      unfold wX4_readVar wX4_readVar_0
      rw [C.2.2.2.2.2.2.1, C.2.2.2.2.2.2.2, c12]
      refine ⟨fun _ x ex' => ?_, fun z => absurd si z⟩
      rw [ex']
      refine ⟨isO_t hb ht, C_vn v2 c6 nv (fun r w => ⟨fun z => ?_, fun _ => ?_⟩) (fun w => absurd w ex)⟩
      · have := w.1.1; clear h0 h1 ex; omega
      · refine C_fl N4 C (fun S' g => ⟨Or.inl rfl, fun _ => h0 S' R' (FO_mk hb (by decide) (S1 := S) (R1 := D) (offFam_rd hb (fun _ _ _ => rfl)) (offH_0 (fun _ _ _ => rfl)) g f') (fun P k' hk => pre P k' (R_vn hh hD ht v2 dv (fun r' w' => ⟨fun z => ?_, fun _ => ?_⟩) (fun w' => absurd w' ex))), fun z => absurd rfl z⟩)
        · have := w'.1.1; clear h0 h1 ex hk; omega
        · rw [R.2.2.2.2.2.1]; exact n' _ hk
  · obtain ⟨R', f', n'⟩ := R_od R t1.2.1
    unfold wX4_readVar wX4_readVar_0
    rw [C.2.2.2.2.2.2.1]
    refine ⟨fun z => absurd z si, fun _ => C_misf N4 C (fun S' g => ⟨Or.inl rfl, fun _ => h0 S' R' (FO_mk hb (msf_pos _) (S1 := S) (R1 := D) (offFam_rd hb (fun _ _ _ => rfl)) (offH_0 (fun _ _ _ => rfl)) g f') (fun P k' hk => ?_), fun z => absurd rfl z⟩)⟩
    unfold wX8_readVars_12_b
    exact ⟨fun z => absurd z (by decide), fun _ => R_isS R t1.2.1 (x := 2) (by unfold srtOK; omega) (by decide) (fun w => absurd w si) (fun w => ⟨fun z => absurd rfl z, fun _ => n' _ hk⟩)⟩
end Vars
