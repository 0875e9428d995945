/-! pure: reading: all arguments of a REF; its end, both together -/
def RAq (D : St) (h t r c : Int) (P : Int → St → Prop) (k : St → Prop) : Prop := wX8_is D 60 (fun x_4 => (x_4 = 0 → wX8_readRefs_276 D t (24 * h + t) r 0 P k) ∧ (¬ x_4 = 0 → wX8_readArguments D t (5 * (24 * h + t) + c) (fun x_7 S_7 => wX8_readRefs_276 S_7 t (24 * h + t) r x_7 P k)))
section Args2
variable {T te so va pl : Int → Int} {n N i b h t r c q x m : Int} {S D S' D' : St}
theorem R_276_no {P : Int → St → Prop} {k : St → Prop} {y : Int} (g : ¬ D 0 8 = 0) (hk : P 0 D) : wX8_readRefs_276 D t y r q P k := by
  unfold wX8_readRefs_276 wX8_goesOn wX8_goesOn_0
  refine ⟨fun _ => ⟨fun _ => ?_, fun z => absurd rfl z⟩, fun z => absurd z g⟩
  unfold wX8_readRefs_333
  exact R_is_no g ⟨fun _ => hk, fun z => absurd rfl z⟩
theorem R_aend {k : Int → St → Prop} (hk : wX8_take D 62 (fun S => k m S)) : wX8_readArguments_9 D t x m 0 k := by
  unfold wX8_readArguments_9
  refine wlp_exit (fun P => ?_)
  show wX8_readArguments_9_b D t x m 0 (fun b0 b1 b2 => P (b0, b1, b2)) k
  unfold wX8_readArguments_9_b wX8_readArguments_72
  exact ⟨fun _ => hk, fun z => absurd rfl z⟩
theorem R_astep {k : Int → St → Prop} {m' y : Int} (hs : ∀ P : Int → Int → St → Prop, P m' y D' → wX8_readArguments_9_b D t x m 1 P k) (hk : wX8_readArguments_9 D' t x m' y k) : wX8_readArguments_9 D t x m 1 k := by
  unfold wX8_readArguments_9 at hk ⊢
  exact wlp_step (a' := (m', y, D')) (fun P hp => hs (fun b0 b1 b2 => P (b0, b1, b2)) hp) hk
theorem J_args {k : Int → St → Prop} (hb : b = 2 ∨ b = 515) (hh : half01 h) (ht : 0 ≤ t ∧ t < 24) (K : Tks T n N te so va pl) (C : CTk N so va pl S i) (R : RTk T n te so va pl D i) (M : Md S b D h t) (er : S 1032 13 = r) (hr : 0 ≤ r ∧ r < 24) (hc : 0 ≤ c ∧ c < 4)
    (h1 : ∀ S' D' j q, i ≤ j → (0 ≤ q ∧ q ≤ 2) → CTk N so va pl S' j → RTk T n te so va pl D' j → (∀ m, 0 ≤ m → m < q → aOK D h t (D' 18 (2 * (5 * (24 * h + t) + c) + m)) ∧ S' (ty b t + 5) (2 * r + m) = D' 18 (2 * (5 * (24 * h + t) + c) + m)) → (∀ a j, ¬ (a = 1032 ∧ 4 ≤ j ∧ j ≤ 6) → ¬ (a = ty b t + 5 ∧ 2 * r ≤ j ∧ j < 2 * r + 2) → S' a j = S a j) → (∀ a j, ¬ (a = 0 ∧ 4 ≤ j ∧ j ≤ 7) → ¬ (a = 18 ∧ 2 * (5 * (24 * h + t) + c) ≤ j ∧ j < 2 * (5 * (24 * h + t) + c) + 2) → D' a j = D a j) → (∀ (P : Int → St → Prop) (k' : St → Prop), wX8_readRefs_276 D' t (24 * h + t) r q P k' → RAq D h t r c P k') → wX4_readArguments_122 S' q k)
    (h0 : ∀ S' D', FO S D b h S' D' → (∀ (P : Int → St → Prop) (k' : St → Prop), P 0 D' → RAq D h t r c P k') → k 0 S') : wX4_readArguments S k := by
  have h01 : 0 ≤ h ∧ h ≤ 1 := by unfold half01 at hh; omega
  have t1 := K.2.2.1 i C.1.1 C.1.2
  unfold wX4_readArguments wX4_readArguments_0
  rw [C.2.2.2.2.2.2.1]
  refine ⟨fun si => h1 S D i 0 (Int.le_refl _) (by decide) C R (fun m m0 m1 => by omega) (fun _ _ _ _ => rfl) (fun _ _ _ _ => rfl) (fun P k' hk => ?_), fun si => ?_⟩
  · unfold RAq
    exact R_isS R t1.2.1 (x := 60) (by unfold srtOK; omega) (by decide) (fun w => absurd w si) (fun w => ⟨fun _ => hk, fun z => absurd rfl z⟩)
  · obtain ⟨D1, ⟨r1, o1⟩, n1⟩ := R_nx K C.1 R (by omega)
    have run1 : ∀ (P : Int → St → Prop) (k' : St → Prop), wX8_readArguments_9 D1 t (5 * (24 * h + t) + c) 0 1 (fun x_7 S_7 => wX8_readRefs_276 S_7 t (24 * h + t) r x_7 P k') → RAq D h t r c P k' := by
      intro P k' hk
      unfold RAq
      refine R_isS R t1.2.1 (x := 60) (by unfold srtOK; omega) (by decide) (fun w => ⟨fun z => absurd z (by decide), fun _ => ?_⟩) (fun w => absurd si w)
      unfold wX8_readArguments wX8_readArguments_0
      exact n1 _ hk
    have M1 : Md S b D1 h t := M.tr hb ht (fun _ _ _ _ _ _ => rfl) (mR_N o1)
    have hD1 : D1 0 10 = h := M1.1.1.2.1
    have dead : ∀ (y : Int) (D9 : St), ¬ D9 0 8 = 0 → ∀ (P : Int → St → Prop) (k' : St → Prop), P 0 D9 → wX8_readArguments_9 D9 t (5 * (24 * h + t) + c) y 0 (fun x_7 S_7 => wX8_readRefs_276 S_7 t (24 * h + t) r x_7 P k') := fun y D9 g P k' hk => R_aend (R_take_no g (R_276_no g hk))
    -- behind the last argument
    have endq : ∀ S6 D6 j q, i ≤ j → (0 ≤ q ∧ q ≤ 2) → CTk N so va pl S6 j → RTk T n te so va pl D6 j → (∀ m, 0 ≤ m → m < q → aOK D h t (D6 18 (2 * (5 * (24 * h + t) + c) + m)) ∧ S6 (ty b t + 5) (2 * r + m) = D6 18 (2 * (5 * (24 * h + t) + c) + m)) → (∀ a j, ¬ (a = 1032 ∧ 4 ≤ j ∧ j ≤ 6) → ¬ (a = ty b t + 5 ∧ 2 * r ≤ j ∧ j < 2 * r + 2) → S6 a j = S a j) → (∀ a j, ¬ (a = 0 ∧ 4 ≤ j ∧ j ≤ 7) → ¬ (a = 18 ∧ 2 * (5 * (24 * h + t) + c) ≤ j ∧ j < 2 * (5 * (24 * h + t) + c) + 2) → D6 a j = D a j) → (∀ kk : Int → St → Prop, wX8_readArguments_9 D6 t (5 * (24 * h + t) + c) q 0 kk → wX8_readArguments_9 D1 t (5 * (24 * h + t) + c) 0 1 kk) → wX4_readArguments_111 S6 q k := by
      intro S6 D6 j q ij hq C6 r6 ar fc fr run6
      unfold wX4_readArguments_111
      refine J_take K C6 r6 (x := 62) (y := 62) (by unfold srtOK; omega) (by decide) (by decide) (fun _ S7 D7 a7 C7 o7 r7 n7 => ⟨fun _ => ?_, fun z => absurd z (by decide)⟩) (fun S7 D7 g7 f7 n7 => ⟨fun z => absurd rfl z, fun _ => ?_⟩)
      · refine h1 S7 D7 (j + 1) q (by omega) hq C7 r7 (fun m m0 m1 => ?_) (fun a j g1 g2 => ?_) (fun a j g1 g2 => ?_) (fun P k' hk => run1 P k' (run6 _ (R_aend (n7 _ hk))))
        · rw [o7 _ _ (by omega), a7 _ _ (by unfold ty; omega)]; exact ar m m0 m1
        · rw [a7 _ _ g1]; exact fc a j g1 g2
        · rw [o7 _ _ g1]; exact fr a j g1 g2
      · have fo : FO S D b h S7 D7 := FO_mk hb (msf_pos _) (offFam_t hb ht (fun a j g1 g2 g3 => fc a j (by omega) (by omega))) (offH_t ht (fun a j g => fr a j (fun w => g (Or.inl w)) (fun w => g (by unfold inTy; omega)))) g7 f7
        exact h0 S7 D7 fo (fun P k' hk => run1 P k' (run6 _ (R_aend (n7 _ (R_276_no (FO_met fo) hk)))))
    unfold wX4_readArguments_13
    refine ⟨3, ?_⟩
    show wX4_readArguments_13_b S 0 0 (fun b0 b1 b2 => itP (fun (P : Int × Int × St → Prop) (a : Int × Int × St) => wX4_readArguments_13_b a.2.2 a.1 a.2.1 (fun b0 b1 b2 => P (b0, b1, b2)) k) 2 (b0, b1, b2)) k
    unfold wX4_readArguments_13_b
    refine ⟨fun z => absurd z (by decide), fun _ => ⟨fun _ => ?_, fun z => absurd rfl z⟩⟩
    refine J_arg (m := 0) (r := r) (c := c) hb hh ht K C (by omega) r1 M1 er hr hc (Or.inl rfl) (fun S2 D2 y C2 r2 ok2 cy dy fc2 fr2 run2 => ?_) (fun S2 D2 fo run2 => ?_)
    · have e01 : (0 : Int) + 1 = 1 := rfl
      rw [e01] at run2
      have t2 := K.2.2.1 (i + 1 + 1) C2.1.1 C2.1.2
      have aoD : ∀ z, aOK D1 h t z → aOK D h t z := fun z g => by unfold aOK at g ⊢; rw [o1 _ _ (by omega)] at g; exact g
      show wX4_readArguments_13_b S2 1 1 (fun b0 b1 b2 => itP (fun (P : Int × Int × St → Prop) (a : Int × Int × St) => wX4_readArguments_13_b a.2.2 a.1 a.2.1 (fun b0 b1 b2 => P (b0, b1, b2)) k) 1 (b0, b1, b2)) k
      unfold wX4_readArguments_13_b
      rw [C2.2.2.2.2.2.2.1]
      refine ⟨fun z => absurd z (by decide), fun _ => ⟨fun z => absurd z (by decide), fun _ => ⟨fun s44 => ?_, fun s44 => ?_⟩⟩⟩
      · refine endq S2 D2 (i + 1 + 1) 1 (by omega) (by decide) C2 r2 (fun m m0 m1 => ?_) (fun a j g1 g2 => fc2 a j g1 (by omega)) (fun a j g1 g2 => ?_) (fun kk hk => R_astep (m' := 1) (y := 0) (fun P hp => run2 P _ (R_isS r2 t2.2.1 (x := 44) (by unfold srtOK; omega) (by decide) (fun w => absurd w s44) (fun w => ⟨fun _ => ?_, fun z => absurd rfl z⟩))) hk)
        · have : m = 0 := by omega
          rw [this, cy, dy]
          exact ⟨aoD y ok2, rfl⟩
        · rw [fr2 a j g1 (by omega), o1 a j g1]
        · unfold wX8_readArguments_57 wX8_readArguments_58
          exact ⟨fun _ => hp, fun z => absurd rfl z⟩
      · obtain ⟨D3, ⟨r3, o3⟩, n3⟩ := R_nx K C2.1 r2 (by omega)
        have M3 : Md S2 b D3 h t := M1.tr hb ht (fun a j g1 g2 g3 g4 => fc2 a j (by omega) (by omega)) (fun a j g1 g2 g3 g4 => by rw [o3 a j g1, fr2 a j g1 (by omega)])
        have run3 : ∀ kk : Int → St → Prop, wX8_readArguments_9 D3 t (5 * (24 * h + t) + c) 1 1 kk → wX8_readArguments_9 D1 t (5 * (24 * h + t) + c) 0 1 kk := by
          intro kk hk
          refine R_astep (m' := 1) (y := 1) (D' := D3) (fun P hp => run2 P _ (R_isS r2 t2.2.1 (x := 44) (by unfold srtOK; omega) (by decide) (fun w => ⟨fun z => absurd z (by decide), fun _ => ⟨fun z => absurd z (by decide), fun _ => ?_⟩⟩) (fun w => absurd s44 w))) hk
          unfold wX8_readArguments_58
          exact ⟨fun z => absurd z (by decide), fun _ => n3 _ hp⟩
        refine J_arg (m := 1) (r := r) (c := c) hb hh ht K C2 (by omega) r3 M3 (by rw [fc2 _ _ (by omega) (by unfold ty; omega)]; exact er) hr hc (Or.inr rfl) (fun S4 D4 y4 C4 r4 ok4 cy4 dy4 fc4 fr4 run4 => ?_) (fun S4 D4 fo run4 => ?_)
        · have e12 : (1 : Int) + 1 = 2 := rfl
          rw [e12] at run4
          have t4 := K.2.2.1 (i + 1 + 1 + 1 + 1) C4.1.1 C4.1.2
          show wX4_readArguments_13_b S4 2 2 (fun b0 b1 b2 => itP (fun (P : Int × Int × St → Prop) (a : Int × Int × St) => wX4_readArguments_13_b a.2.2 a.1 a.2.1 (fun b0 b1 b2 => P (b0, b1, b2)) k) 0 (b0, b1, b2)) k
          unfold wX4_readArguments_13_b
          refine ⟨fun _ => endq S4 D4 (i + 1 + 1 + 1 + 1) 2 (by omega) (by decide) C4 r4 (fun m m0 m1 => ?_) (fun a j g1 g2 => ?_) (fun a j g1 g2 => ?_) (fun kk hk => run3 kk (R_astep (m' := 2) (y := 0) (fun P hp => run4 P _ ?_) hk)), fun z => absurd z (by decide)⟩
          · by_cases cm : m = 0
            · rw [cm, fr4 _ _ (by omega) (by omega), fc4 _ _ (by unfold ty; omega) (by omega), o3 _ _ (by omega), cy, dy]
              exact ⟨aoD y ok2, rfl⟩
            · have : m = 1 := by omega
              rw [this, cy4, dy4]
              refine ⟨?_, rfl⟩
              have g := ok4
              unfold aOK at g ⊢
              rw [o3 _ _ (by omega), fr2 _ _ (by omega) (by omega), o1 _ _ (by omega)] at g
              exact g
          · rw [fc4 a j g1 (by omega)]; exact fc2 a j g1 (by omega)
          · rw [fr4 a j g1 (by omega), o3 a j g1, fr2 a j g1 (by omega), o1 a j g1]
          · have e : wX8_readArguments_57 D4 t (5 * (24 * h + t) + c) 2 P kk := by
              unfold wX8_readArguments_57 wX8_readArguments_58
              exact ⟨fun _ => hp, fun z => absurd rfl z⟩
            exact R_isS r4 t4.2.1 (x := 44) (by unfold srtOK; omega) (by decide) (fun w => ⟨fun z => absurd z (by decide), fun _ => ⟨fun _ => e, fun z => absurd z (by decide)⟩⟩) (fun w => ⟨fun _ => e, fun z => absurd rfl z⟩)
        · have fo' : FO S D b h S4 D4 := FO_tr hb ht (fun a j g1 g2 g3 => fc2 a j (by omega) (by omega)) (fun a j g => by rw [o3 a j (fun w => g (Or.inl w)), fr2 a j (fun w => g (Or.inl w)) (fun w => g (by unfold inTy; omega)), o1 a j (fun w => g (Or.inl w))]) fo
          exact h0 S4 D4 fo' (fun P k' hk => run1 P k' (run3 _ (R_astep (fun P' hp => run4 P' _ hp) (dead _ D4 (FO_met fo') P k' hk))))
    · have fo' : FO S D b h S2 D2 := FO_tr hb ht (fun _ _ _ _ _ => rfl) (fRt_N o1) fo
      exact h0 S2 D2 fo' (fun P k' hk => run1 P k' (R_astep (fun P' hp => run2 P' _ hp) (dead _ D2 (FO_met fo') P k' hk)))
/-- behind a REF -/
theorem J_refend {k : Int → St → Prop} {D0 : St} (hb : b = 2 ∨ b = 515) (hh : half01 h) (ht : 0 ≤ t ∧ t < 24) (K : Tks T n N te so va pl) (C : CTk N so va pl S i) (R : RTk T n te so va pl D i) (M : Md S b D h t) (er : S 1032 13 = r) (hr : 0 ≤ r ∧ r < t)
    (run : ∀ (P : Int → St → Prop) (k' : St → Prop), wX8_readRefs_276 D t (24 * h + t) r q P k' → wX8_readRefs_12_b D0 t (24 * h + t) 1 P k')
    (h1 : ∀ S' D' s, CTk N so va pl S' (i + 1) → RTk T n te so va pl D' (i + 1) → q = D 13 (24 * h + r) → (∀ a x, ¬ (a = 1032 ∧ ((4 ≤ x ∧ x ≤ 6) ∨ x = 11)) → S' a x = S a x) → offN D D' → S' 1032 11 = s → (s = 2 ∧ (∀ k' : St → Prop, RKr D' h t k' → RKr D0 h t k')) ∨ (s = 3 ∧ (∀ k' : St → Prop, wX8_readType_292 D' t k' → RKr D0 h t k')) → k 1 S')
    (h0 : ∀ S' D', FO S D b h S' D' → (∀ k' : St → Prop, k' D' → RKr D0 h t k') → k 0 S') : wX4_readArguments_122 S q k := by
  have N4 := K.1.2
  have h01 : 0 ≤ h ∧ h ≤ 1 := by unfold half01 at hh; omega
  have t1 := K.2.2.1 i C.1.1 C.1.2
  have hD := M.1.1.2.1
  have d5 := R.2.2.2.2.1
  have d44 : D 0 5 = 44 ↔ so i = 44 := by
    rw [d5]
    have := rsrt_inj t1.2.1 (y := 44) (by unfold srtOK; omega)
    rw [show rsrt 44 = 44 by decide] at this; exact this
  have d123 : D 0 5 = 123 ↔ so i = 123 := by
    rw [d5]
    have := rsrt_inj t1.2.1 (y := 123) (by unfold srtOK; omega)
    rw [show rsrt 123 = 123 by decide] at this; exact this
  -- the reference's loop
  have stp : ∀ (y : Int) (D' : St) (k' : St → Prop), (∀ P : Int → St → Prop, P y D' → wX8_readRefs_12_b D0 t (24 * h + t) 1 P (fun S => wX8_readType_286 S t k')) → wX8_readRefs_12 D' t (24 * h + t) y (fun S => wX8_readType_286 S t k') → RKr D0 h t k' := by
    intro y D' k' hs hk
    unfold RKr
    unfold wX8_readRefs_12 at hk ⊢
    exact wlp_step (a' := (y, D')) (fun P hp => hs (fun b0 b1 => P (b0, b1)) hp) hk
  have ext : ∀ (k' : St → Prop), (∀ P : Int → St → Prop, wX8_readRefs_12_b D0 t (24 * h + t) 1 P (fun S => wX8_readType_286 S t k')) → RKr D0 h t k' := by
    intro k' hs
    unfold RKr wX8_readRefs_12
    exact wlp_exit (fun P => hs (fun b0 b1 => P (b0, b1)))
  have out : ∀ (k' : St → Prop), wX8_readType_286 D t k' → wX8_readRefs_12 D t (24 * h + t) 0 (fun S => wX8_readType_286 S t k') := by
    intro k' hk
    unfold wX8_readRefs_12
    refine wlp_exit (fun P => ?_)
    show wX8_readRefs_12_b D t (24 * h + t) 0 (fun b0 b1 => P (b0, b1)) _
    unfold wX8_readRefs_12_b
    exact ⟨fun _ => hk, fun z => absurd rfl z⟩
  have g276 : ∀ (P : Int → St → Prop) (k' : St → Prop), (q = D 13 (24 * h + r) → wX8_readRefs_333 D t (24 * h + t) P k') → (¬ q = D 13 (24 * h + r) → (so i = 44 ∨ so i = 123 → wX8_readRefs_319 D k') ∧ (¬ so i = 44 → ¬ so i = 123 → wX8_readRefs_328 D k')) → wX8_readRefs_276 D t (24 * h + t) r q P k' := by
    intro P k' e1 e2
    unfold wX8_readRefs_276 wX8_goesOn wX8_goesOn_0 wX8_t wX8_t_0
    rw [hD, w32_eq (x := 24 * h) (by clear e1 e2; omega) (by clear e1 e2; omega), w32_eq (x := 24 * h + r) (by clear e1 e2; omega) (by clear e1 e2; omega)]
    refine ⟨fun z => absurd R.2.2.2.2.2.2.2 z, fun _ => ⟨fun z => absurd z (by decide), fun _ => ⟨by clear e1 e2; omega, e1, fun ne => ⟨fun z => (e2 ne).1 (Or.inl (d44.mp z)), fun z => ⟨fun z2 => (e2 ne).2 (fun w => z (d44.mpr w)) (fun w => z2 (d123.mpr w)), fun z2 => (e2 ne).1 (Or.inr (d123.mp z2))⟩⟩⟩⟩⟩
  have c6 : S (ty b r) 6 = D 13 (24 * h + r) := (M.1.2.1 r hr.1 hr.2).1.2.2.2.2.2.2.1
  have mid : (so i = 44 ∨ so i = 123) → wX4_readArguments_145 S q k := by
    intro si
    unfold wX4_readArguments_145
    intro x ex
    rw [M.1.1.1] at ex
    rw [ex, er]
    refine ⟨isO_b hb, by omega, fun y ey => ?_⟩
    have ey : y = ty b r := ey
    rw [ey, c6, C.2.2.2.2.2.2.1]
    refine ⟨fun e => ?_, fun ne => ?_⟩
    · obtain ⟨D1, ⟨r1, o1⟩, n1⟩ := R_nx K C.1 R (by omega)
      refine ⟨fun n44 => ?_, fun s44 => ?_⟩
      · have s123 : so i = 123 := by omega
        unfold wX4_readArguments_185
        intro S1 e1
        have C1 : CTk N so va pl S1 i := C.off (fun a j g => by rw [e1, up_n _ (by omega)])
        refine C_adv K C1 (by omega) (fun S2 a2 C2 => h1 S2 D1 3 C2 r1 e (fun a x g => by rw [a2 a x (by omega), e1, up_n _ (by omega)]) o1 (by rw [a2 _ _ (by omega), e1, up_s]) (Or.inr ⟨rfl, fun k' hk => stp 0 D k' (fun P hp => run P _ (g276 P _ (fun _ => ?_) (fun ne => absurd e ne))) (out k' ?_)⟩))
        · unfold wX8_readRefs_333
          exact R_isS R t1.2.1 (x := 44) (by unfold srtOK; omega) (by decide) (fun w => absurd w n44) (fun w => ⟨fun _ => hp, fun z => absurd rfl z⟩)
        · unfold wX8_readType_286 wX8_take wX8_take_0
          exact R_isS R t1.2.1 (x := 123) (by unfold srtOK; omega) (by decide) (fun w => ⟨fun z => absurd z (by decide), fun _ => n1 _ hk⟩) (fun w => absurd s123 w)
      · unfold wX4_readArguments_185
        intro S1 e1
        have C1 : CTk N so va pl S1 i := C.off (fun a j g => by rw [e1, up_n _ (by omega)])
        refine C_adv K C1 (by omega) (fun S2 a2 C2 => h1 S2 D1 2 C2 r1 e (fun a x g => by rw [a2 a x (by omega), e1, up_n _ (by omega)]) o1 (by rw [a2 _ _ (by omega), e1, up_s]) (Or.inl ⟨rfl, fun k' hk => stp 1 D1 k' (fun P hp => run P _ (g276 P _ (fun _ => ?_) (fun ne => absurd e ne))) hk⟩))
        unfold wX8_readRefs_333
        exact R_isS R t1.2.1 (x := 44) (by unfold srtOK; omega) (by decide) (fun w => ⟨fun z => absurd z (by decide), fun _ => n1 _ hp⟩) (fun w => absurd s44 w)
    · obtain ⟨D1, w1, n1⟩ := R_fl (S := D) (f := 4) (p := pl i) R.2.2.2.2.2.2.2
      refine C_fl N4 C (fun S1 g1 => ⟨Or.inl rfl, h0 S1 D1 (FO_mk hb (by decide) (S1 := S) (R1 := D) (offFam_rd hb (fun _ _ _ => rfl)) (offH_0 (fun _ _ _ => rfl)) g1 w1) (fun k' hk => ext k' (fun P => run P _ (g276 P _ (fun e => absurd e ne) (fun _ => ⟨fun _ => ?_, fun a1 a2 => by omega⟩))))⟩)
      have met : ¬ D1 0 8 = 0 := by rw [w1.1]; decide
      unfold wX8_readRefs_319 wX8_readRefs_328
      rw [R.2.2.2.2.2.1]
      exact n1 _ (R_odd_no met (R_286_no met hk))
  unfold wX4_readArguments_122
  rw [C.2.2.2.2.2.2.1]
  refine ⟨fun z => mid (Or.inl z), fun z => ⟨fun z2 => mid (Or.inr z2), fun z2 => ?_⟩⟩
  obtain ⟨D1, w1, n1⟩ := R_od R t1.2.1
  have met : ¬ D1 0 8 = 0 := by have := msf_pos (so i); rw [w1.1]; omega
  refine C_misf N4 C (fun S1 g1 => ⟨Or.inl rfl, h0 S1 D1 (FO_mk hb (msf_pos _) (S1 := S) (R1 := D) (offFam_rd hb (fun _ _ _ => rfl)) (offH_0 (fun _ _ _ => rfl)) g1 w1) (fun k' hk => ?_)⟩)
  by_cases e : q = D 13 (24 * h + r)
  · refine stp 0 D k' (fun P hp => run P _ (g276 P _ (fun _ => ?_) (fun ne => absurd e ne))) (out k' ?_)
    · unfold wX8_readRefs_333
      exact R_isS R t1.2.1 (x := 44) (by unfold srtOK; omega) (by decide) (fun w => absurd w z) (fun w => ⟨fun _ => hp, fun z => absurd rfl z⟩)
    · unfold wX8_readType_286 wX8_take wX8_take_0
      exact R_isS R t1.2.1 (x := 123) (by unfold srtOK; omega) (by decide) (fun w => absurd w z2) (fun w => ⟨fun _ => n1 _ (R_292_no met hk), fun z => absurd rfl z⟩)
  · refine ext k' (fun P => run P _ (g276 P _ (fun w => absurd w e) (fun _ => ⟨fun w => by omega, fun _ _ => ?_⟩)))
    unfold wX8_readRefs_328
    exact n1 _ (R_286_no met hk)
end Args2
