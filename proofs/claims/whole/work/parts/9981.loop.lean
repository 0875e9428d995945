/-! pure: reading: an item; the loop, both together -/
section Loop
variable {T te so va pl : Int → Int} {n N i b h t M base np : Int} {S D S0 D0 S' D' : St}
theorem Bt_tr (hb : b = 2 ∨ b = 515) (B : Bt S b D h t M base) (c : ∀ a j, ¬ (a = 1032 ∧ ((4 ≤ j ∧ j ≤ 6) ∨ j = 9 ∨ j = 10)) → ¬ a = 1033 → ¬ (a = b ∧ j = 8) → S' a j = S a j) (d : ∀ a j, ¬ (a = 0 ∧ ((4 ≤ j ∧ j ≤ 7) ∨ j = 46 ∨ j = 47)) → ¬ (a = 6 ∧ j = h) → ¬ a = 7 → D' a j = D a j) : Bt S' b D' h t M base := by
  obtain ⟨⟨⟨a1, a2, a3, a4⟩, a5⟩, a6, Kc, ⟨a7, a8, a9⟩, ⟨⟨b1, b2⟩, b3, b4⟩, b5, b6⟩ := B
  have dF : ∀ a, 8 ≤ a → D' a = D a := fun a g => funext (fun j => d a j (by omega) (by omega) (by omega))
  have rmA := rMs_E (E := S') (fun q x j q0 q1 c0 c1 => c _ _ (by unfold me; omega) (by unfold me; omega) (by unfold me; omega)) a7 a8 a9
  have rmB := rMs_D (D' := D') (dF 15 (by decide)) (fun a g1 g2 => dF a (by omega)) rmA.1 rmA.2.1 rmA.2.2
  refine ⟨⟨⟨?_, ?_, ?_, ?_⟩, a5⟩, fun u v u0 u1 u2 => ?_, RDc_tr a5.2 b5.2 (AgR_all (fun a g _ => dF a g)) a5.1 (fun a j g1 g2 => c a j (by unfold ty at g2; omega) (by unfold ty at g2; omega) (by omega)) Kc, rmB, ⟨⟨?_, ?_⟩, ?_, ?_⟩, b5, fun j => ?_⟩
  · rw [c _ _ (by omega) (by omega) (by omega)]; exact a1
  · rw [d _ _ (by omega) (by omega) (by omega)]; exact a2
  · rw [c _ _ (by omega) (by omega) (by omega)]; exact a3
  · rw [d _ _ (by omega) (by omega) (by omega)]; exact a4
  · rw [dF 8 (by decide)]; exact a6 u v u0 u1 u2
  · rw [c _ _ (by omega) (by omega) (by omega)]; exact b1
  · rw [c _ _ (by omega) (by omega) (by omega)]; exact b2
  · rw [d _ _ (by omega) (by omega) (by omega)]; exact b3
  · rw [d _ _ (by omega) (by omega) (by omega)]; exact b4
  · rw [dF 33 (by decide)]; exact b6 j
theorem J_item {kk : Int → St → Prop} (hb : b = 2 ∨ b = 515) (hh : half01 h) (K : Tks T n N te so va pl) (nn : nmb S0 b) (C : CTk N so va pl S i) (R : RTk T n te so va pl D i) (P : ∃ np, Pq S b D h np ∧ 7 * np ≤ te i) (fo : offFam S0 S b) (ho : offH D0 D h) (s7 : S 1032 7 = 0) (s11 : S 1032 11 = 0) (ni : ¬ so i = 0) (B : Bt S b D h t M base) (run : ∀ k : Int → St → Prop, wX8_compile_74 D k → wX8_compile_74 D0 k)
    (h1 : ∀ S' D' j, i < j → LpI T n N te so va pl b h S0 D0 j S' D' → kk 1 S') (h0 : ∀ S' D', FO S0 D0 b h S' D' → (∀ k : Int → St → Prop, wX8_compile_161 D' k → wX8_compile_74 D0 k) → kk 0 S') : wX4_readItem S kk := by
  have N4 := K.1.2
  have t1 := K.2.2.1 i C.1.1 C.1.2
  have d8 := R.2.2.2.2.2.2.2
  have r0 := rs R t1.2.1 (x := 0) (y := 0) (by unfold srtOK; omega) (by decide)
  have r200 := rs R t1.2.1 (x := 200) (y := 10) (by unfold srtOK; omega) (by decide)
  have r201 := rs R t1.2.1 (x := 201) (y := 11) (by unfold srtOK; omega) (by decide)
  have r202 := rs R t1.2.1 (x := 202) (y := 12) (by unfold srtOK; omega) (by decide)
  have r203 := rs R t1.2.1 (x := 203) (y := 13) (by unfold srtOK; omega) (by decide)
  have r210 := rs R t1.2.1 (x := 210) (y := 20) (by unfold srtOK; omega) (by decide)
  have d0 : ¬ D 0 5 = 0 := fun w => ni (r0.mp w)
  have mis : ¬ so i = 200 → ¬ so i = 201 → ¬ so i = 202 → ¬ so i = 203 → ¬ so i = 210 → wX4_misfit S (fun x_7 S_7 => (x_7 = 0 ∨ x_7 = 1) ∧ kk x_7 S_7) := by
    intro n1 n2 n3 n4 n5
    obtain ⟨D1, w1, g1⟩ := R_od R t1.2.1
    refine C_misf N4 C (fun S1 q1 => ⟨Or.inl rfl, ?_⟩)
    have fo' : FO S0 D0 b h S1 D1 := FO_mk hb (msf_pos _) fo ho q1 w1
    refine h0 S1 D1 fo' (fun k hk => run k (R_cstep (fun Q hq => ?_) (R_cend (Or.inl (FO_met fo')) hk)))
    unfold wX8_compile_74_b wX8_goesOn wX8_goesOn_0
    exact ⟨fun z => absurd d8 z, fun _ => ⟨fun z => absurd z (by decide), fun _ => ⟨fun z => absurd z d0, fun _ => ⟨fun _ => ⟨fun _ => ⟨fun z => absurd (r210.mp z) n5, fun _ => ⟨fun z => absurd (r202.mp z) n3, fun _ => ⟨fun _ => g1 _ hq, fun z => absurd (r203.mp z) n4⟩⟩⟩, fun z => absurd (r201.mp z) n2⟩, fun z => absurd (r200.mp z) n1⟩⟩⟩⟩
  have typ : (so i = 202 ∨ so i = 203 ∨ so i = 210) → wX4_readType S (fun x_5 S_5 => (x_5 = 0 ∨ x_5 = 1) ∧ kk x_5 S_5) := by
    intro si
    have gy : tyS D := ⟨d8, d0, fun w => by have := r200.mp w; omega, fun w => by have := r201.mp w; omega, by
      rcases si with w | w | w
      · exact Or.inr (Or.inl (r202.mpr w))
      · exact Or.inr (Or.inr (r203.mpr w))
      · exact Or.inl (r210.mpr w)⟩
    obtain ⟨⟨⟨a1, a2, a3, a4⟩, a5⟩, a6, Kc, ⟨a7, a8, a9⟩, ⟨⟨b1, b2⟩, b3, b4⟩, b5, b6⟩ := id B
    obtain ⟨np, Pp, Pl⟩ := id P
    refine J_readType hb hh a5 K C R si a1 a2 a3 a4 (fun u u0 u1 => ((Kc.1 u u0 u1).2.2.1.1).2.1) Pp.2 ⟨b1, b3⟩ (fun S1 D1 j f t24 ij hf C1 r1 W run1 => ⟨Or.inr rfl, ?_⟩) (fun S1 D1 fo1 run1 => ⟨Or.inl rfl, ?_⟩)
    · obtain ⟨O1, pf, pg, f1, o1, z16, z13, z11, e11⟩ := Op_new hb hh ⟨a5.1, t24⟩ hf B (nn.tr fo) W
      exact h1 S1 D1 j ij ⟨C1, r1, Pq_go K C.1.1 (by omega) (by have := C1.1.2; omega) P pf pg, fo.tr f1, ho.tr o1, by rw [pf.2.2.2.2]; exact s7, Or.inr ⟨D, t, gy, ⟨a5.1, t24⟩, run, Or.inl ⟨e11, f, M, base, O1, z16, z13, z11, run1⟩⟩⟩
    · have fo' := FO_pre fo ho fo1
      exact h0 S1 D1 fo' (fun k hk => run k (R_cty gy (fun P hp => run1 P hp) (R_cend (Or.inl (FO_met fo')) hk)))
  have pck : so i = 200 → wX4_readPack S (fun x_3 S_3 => (x_3 = 0 ∨ x_3 = 1) ∧ kk x_3 S_3) := by
    intro si
    obtain ⟨np, Pp, Pl⟩ := id P
    have p4 := pack4 K C.1 si
    have n4 := K.2.1
    have stp : ∀ (D' : St) (k : Int → St → Prop), (∀ k : St → Prop, k D' → wX8_readPackage D k) → wX8_compile_74 D' k → wX8_compile_74 D k := by
      intro D' k hs hk
      refine R_cstep (fun Q hq => ?_) hk
      unfold wX8_compile_74_b wX8_goesOn wX8_goesOn_0
      exact ⟨fun z => absurd d8 z, fun _ => ⟨fun z => absurd z (by decide), fun _ => ⟨fun z => absurd z d0, fun _ => ⟨fun z => absurd (r200.mpr si) z, fun _ => hs _ hq⟩⟩⟩⟩
    refine J_readPack hb hh K C R si B.1.1.1 B.1.1.2.1 Pp.1 (by omega) (fun S1 D1 v np' hnp s1 s2 C1 r1 e9 e46 Pk1 fS fD run1 => ⟨Or.inr rfl, ?_⟩) (fun S1 D1 fo1 run1 => ⟨Or.inl rfl, ?_⟩)
    · have p7 := pack7 K (i := i) ⟨C.1.1, by have := C1.1.2; omega⟩ si s1 s2
      refine h1 S1 D1 (i + 3) (by omega) ⟨C1, r1, ⟨np', ⟨Pk1, by rw [e9, e46], ?_⟩, by omega⟩, fo.tr (fS.fam hb), ho.tr fD.half, ?_, Or.inl ⟨?_, ⟨t, M, base, Bt_tr hb B (fun a j g1 g2 g3 => fS a j (by omega) g2 g3) (fun a j g1 g2 g3 => fD a j (by omega) g2 g3)⟩, fun k hk => run k (stp D1 k run1 hk)⟩⟩
      · rw [fS _ _ (by omega) (by omega) (by omega), fD _ _ (by omega) (by omega) (by omega)]; exact Pp.2.2
      · rw [fS _ _ (by omega) (by omega) (by omega)]; exact s7
      · rw [fS _ _ (by omega) (by omega) (by omega)]; exact s11
    · have fo' := FO_pre fo ho fo1
      exact h0 S1 D1 fo' (fun k hk => run k (stp D1 k run1 (R_cend (Or.inl (FO_met fo')) hk)))
  have ldr : so i = 201 → wX4_readLoader S (fun x_3 S_3 => (x_3 = 0 ∨ x_3 = 1) ∧ kk x_3 S_3) := by
    intro si
    obtain ⟨np, Pp, Pl⟩ := id P
    have stp : ∀ (D' : St) (k : Int → St → Prop), (∀ k : St → Prop, k D' → wX8_readLoader D k) → wX8_compile_74 D' k → wX8_compile_74 D k := by
      intro D' k hs hk
      refine R_cstep (fun Q hq => ?_) hk
      unfold wX8_compile_74_b wX8_goesOn wX8_goesOn_0
      exact ⟨fun z => absurd d8 z, fun _ => ⟨fun z => absurd z (by decide), fun _ => ⟨fun z => absurd z d0, fun _ => ⟨fun _ => ⟨fun z => absurd (r201.mpr si) z, fun _ => hs _ hq⟩, fun z => by have := r200.mp z; omega⟩⟩⟩⟩
    refine J_readLoader (h := h) hb K C R si (fun S1 D1 v C1 r1 e10 e47 fS fD run1 => ⟨Or.inr rfl, ?_⟩) (fun S1 D1 fo1 run1 => ⟨Or.inl rfl, ?_⟩)
    · have q := te_le K C.1.1 (j := i + 3) (by omega) (by have := C1.1.2; omega)
      refine h1 S1 D1 (i + 3) (by omega) ⟨C1, r1, ⟨np, ⟨?_, ?_, by rw [e10, e47]⟩, by omega⟩, fo.tr (offFam_rd hb (fun a j g => fS a j (by omega))), ho.tr (offH_0 (fun a j g => fD a j (by omega))), ?_, Or.inl ⟨?_, ⟨t, M, base, Bt_tr hb B (fun a j g1 g2 g3 => fS a j (by omega)) (fun a j g1 g2 g3 => fD a j (by omega))⟩, fun k hk => run k (stp D1 k run1 hk)⟩⟩
      · exact Pp.1.off (fS _ _ (by omega)) (fD _ _ (by omega)) (funext (fun j => fS _ _ (by omega))) (funext (fun j => fD _ _ (by omega)))
      · rw [fS _ _ (by omega), fD _ _ (by omega)]; exact Pp.2.1
      · rw [fS _ _ (by omega)]; exact s7
      · rw [fS _ _ (by omega)]; exact s11
    · have fo' := FO_pre fo ho fo1
      exact h0 S1 D1 fo' (fun k hk => run k (stp D1 k run1 (R_cend (Or.inl (FO_met fo')) hk)))
  unfold wX4_readItem wX4_readItem_0
  rw [C.2.2.2.2.2.2.1]
  exact ⟨pck, ldr, fun z => typ (Or.inl z), fun z => typ (Or.inr (Or.inl z)), fun z => mis (by omega) (by omega) (by omega) (by omega) (by omega), fun z => mis (by omega) (by omega) (by omega) (by omega) (by omega), fun z => mis (by omega) (by omega) (by omega) (by omega) (by omega), fun z => mis (by omega) (by omega) (by omega) (by omega) (by omega), fun z => mis (by omega) (by omega) (by omega) (by omega) (by omega), fun z => mis (by omega) (by omega) (by omega) (by omega) (by omega), fun z => typ (Or.inr (Or.inr z)), fun z => mis (by omega) (by omega) (by omega) (by omega) (by omega)⟩
theorem J_loop {k : Int → St → Prop} (hb : b = 2 ∨ b = 515) (hh : half01 h) (K : Tks T n N te so va pl) (nn : nmb S0 b)
    (hE : ∀ S' D', (∃ t M base, Bt S' b D' h t M base) → (∃ np, Pq S' b D' h np) → offFam S0 S' b → offH D0 D' h → S' 1032 7 = 0 → D' 0 8 = 0 → (∀ k : Int → St → Prop, wX8_compile_161 D' k → wX8_compile_74 D0 k) → k 1 S')
    (hF : ∀ S' D', FO S0 D0 b h S' D' → (∀ k : Int → St → Prop, wX8_compile_161 D' k → wX8_compile_74 D0 k) → k 0 S')
    (L : LpI T n N te so va pl b h S0 D0 0 S D) : wX4_read_20 S 1 0 k := by
  have N4 := K.1.2
  unfold wX4_read_20
  refine wlp_of (fun a : Int × Int × St => 0 ≤ a.2.1 ∧ ((a.1 = 1 ∧ ∃ i D, a.2.1 ≤ i ∧ LpI T n N te so va pl b h S0 D0 i a.2.2 D) ∨ (a.1 = 0 ∧ ∃ D, FO S0 D0 b h a.2.2 D ∧ ∀ k : Int → St → Prop, wX8_compile_161 D k → wX8_compile_74 D0 k))) (fun a => (4002 - a.2.1).toNat) ?_ ⟨Int.le_refl _, Or.inl ⟨rfl, 0, D, Int.le_refl _, L⟩⟩
  rintro P ⟨x2, x3, S⟩ ⟨i0, I⟩ hP
  dsimp only at i0 I
  show wX4_read_20_b S x2 x3 (fun b0 b1 b2 => P (b0, b1, b2)) k
  unfold wX4_read_20_b
  rcases I with ⟨ex2, i, D, xi, L⟩ | ⟨ex2, D, f, run⟩
  rotate_left
  · have := hF S D f run
    exact ⟨fun _ => this, fun _ => ⟨fun _ => this, fun z => absurd ex2 z⟩⟩
  · obtain ⟨C, R, Pp, fo, ho, s7, st⟩ := L
    have iN := C.1.2
    have t1 := K.2.2.1 i C.1.1 C.1.2
    refine ⟨fun z => by clear hE hF hP st; omega, fun z4 => ⟨fun z => by clear hE hF hP st; omega, fun _ => ?_⟩⟩
    have w1 : ∀ y, y = w32 (x3 + 1) → y = x3 + 1 := fun y ey => by
      rw [w32_eq (by clear hE hF hP st; omega) (by clear hE hF hP st; omega)] at ey; exact ey
    have nx : ∀ S' D' j, i < j → LpI T n N te so va pl b h S0 D0 j S' D' → ∀ y, y = w32 (x3 + 1) → P (1, y, S') := by
      intro S' D' j ij L' y ey
      rw [w1 y ey]
      exact hP (1, x3 + 1, S') ⟨by show 0 ≤ x3 + 1; clear hE hF hP st; omega, Or.inl ⟨rfl, j, D', by show x3 + 1 ≤ j; clear hE hF hP st; omega, L'⟩⟩ (by show (4002 - (x3 + 1)).toNat < (4002 - x3).toNat; clear hE hF hP st; omega)
    have fl : ∀ S' D', FO S0 D0 b h S' D' → (∀ k : Int → St → Prop, wX8_compile_161 D' k → wX8_compile_74 D0 k) → ∀ y, y = w32 (x3 + 1) → P (0, y, S') := by
      intro S' D' f' r' y ey
      rw [w1 y ey]
      exact hP (0, x3 + 1, S') ⟨by show 0 ≤ x3 + 1; clear hE hF hP st; omega, Or.inr ⟨rfl, D', f', r'⟩⟩ (by show (4002 - (x3 + 1)).toNat < (4002 - x3).toNat; clear hE hF hP st; omega)
    clear hP
    rcases st with ⟨s11, ⟨t, M, base, B⟩, run⟩ | ⟨Dy, t, gy, ht, ry, st⟩
    · refine ⟨fun z => absurd s11 z, fun _ => ⟨fun ns => ?_, fun es => ?_⟩⟩
      · rw [C.2.2.2.2.2.2.1] at ns
        unfold wX4_read_47
        rw [s11]
        refine ⟨fun z => absurd z (by decide), fun z => absurd z (by decide), fun z => absurd z (by decide), fun _ => ?_⟩
        exact J_item hb hh K nn C R Pp fo ho s7 s11 ns B run (fun S' D' j ij L' => nx S' D' j ij L') (fun S' D' f' r' => fl S' D' f' r')
      · rw [C.2.2.2.2.2.2.1] at es
        obtain ⟨np, Pq1, _⟩ := Pp
        refine hE S D ⟨t, M, base, B⟩ ⟨np, Pq1⟩ fo ho s7 R.2.2.2.2.2.2.2 (fun k' hk => run k' (R_cend (Or.inr ((rs R t1.2.1 (x := 0) (by unfold srtOK; clear hE hF nx fl; omega) (by decide)).mpr es)) hk))
    · have s47 : wX4_read_47 S x3 (fun b0 b1 b2 => P (b0, b1, b2)) k := by
        unfold wX4_read_47
        rcases st with ⟨s11, f, M, base, O, z16, z13, z11, run⟩ | ⟨s11, M, base, O, run⟩ | ⟨s11, M0, M1, base, O, run⟩
        · rw [s11]
          refine ⟨fun _ => ?_, fun z => absurd z (by decide), fun z => absurd z (by decide), fun z => absurd z (by decide)⟩
          exact J_stHead hb hh K C R Pp fo ho s7 gy ht ry O z16 z13 z11 run (fun S' D' j ij L' => nx S' D' j ij L') (fun S' D' f' r' => fl S' D' f' r')
        · rw [s11]
          refine ⟨fun z => absurd z (by decide), fun _ => ?_, fun z => absurd z (by decide), fun z => absurd z (by decide)⟩
          unfold wX4_read_102
          exact J_stRef (k0 := fun S' => ∀ y : Int, y = w32 (x3 + 1) → P (0, y, S')) (k1 := fun S' => ∀ y : Int, y = w32 (x3 + 1) → P (1, y, S')) hb hh K C R Pp fo ho s7 gy ht ry O run (fun S' D' j ij L' => nx S' D' j ij L') (fun S' D' f' r' => fl S' D' f' r')
        · rw [C.2.2.2.2.2.2.1, s11]
          refine ⟨fun z => absurd z (by decide), fun z => absurd z (by decide), fun _ => ⟨fun n125 => ?_, fun e125 => ?_⟩, fun z => absurd z (by decide)⟩
          · exact J_stMember hb hh K C R Pp fo ho s7 s11 n125 gy ht ry O run (fun S' D' j ij L' => nx S' D' j ij L') (fun S' D' f' r' => fl S' D' f' r')
          · exact J_stClose hb hh K C R Pp fo ho s7 e125 gy ht ry O run (fun S' D' j ij L' => nx S' D' j ij L') (fun S' D' f' r' => fl S' D' f' r')
      have n0 : ¬ S 1032 11 = 0 := by
        rcases st with ⟨s11, _⟩ | ⟨s11, _⟩ | ⟨s11, _⟩ <;> rw [s11] <;> decide
      exact ⟨fun _ => s47, fun z => absurd z n0⟩
end Loop
