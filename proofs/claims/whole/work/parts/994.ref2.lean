/-! pure: reading: a REF with its arguments, both together -/
section Ref2
variable {T te so va pl : Int → Int} {n N i b h t r c : Int} {S D S' D' : St}
theorem Hd_ref (hb : b = 2 ∨ b = 515) (hh : half01 h) (ht : 0 ≤ t ∧ t < 24) (H : Hd S b D h t) (ec : c = D 16 (24 * h + t)) (c4 : c < 4) (rt : 0 ≤ r ∧ r < t) (nr : ¬ isRf D h t r) (cl : ¬ D 11 (24 * h + r) = 2 → ¬ D 11 (24 * h + t) = 2 ∧ c = 0)
    (v3 : S' (ty b t + 3) c = r) (v9 : S' (ty b t) 9 = c + 1) (v14 : S' (ty b t) 14 = or32 (S (ty b t) 14) (shl32 1 r)) (v11 : ¬ D 11 (24 * h + r) = 2 → S' (ty b t) 11 = r) (v11' : D 11 (24 * h + r) = 2 → S' (ty b t) 11 = S (ty b t) 11)
    (co : ∀ a j, ¬ (a = 1032 ∧ ((4 ≤ j ∧ j ≤ 6) ∨ j = 11 ∨ j = 13)) → ¬ (a = ty b t + 3 ∧ j = c) → ¬ (a = ty b t ∧ (j = 9 ∨ j = 11 ∨ j = 14)) → ¬ (a = ty b t + 5 ∧ 2 * r ≤ j ∧ j < 2 * r + 2) → S' a j = S a j)
    (w17 : D' 17 (5 * (24 * h + t) + c) = r) (w16 : D' 16 (24 * h + t) = c + 1) (w19 : ¬ D 11 (24 * h + r) = 2 → D' 19 (24 * h + t) = r) (w19' : D 11 (24 * h + r) = 2 → D' 19 (24 * h + t) = D 19 (24 * h + t))
    (dof : ∀ a j, ¬ (a = 0 ∧ 4 ≤ j ∧ j ≤ 7) → ¬ (a = 17 ∧ j = 5 * (24 * h + t) + c) → ¬ ((a = 16 ∨ a = 19) ∧ j = 24 * h + t) → ¬ (a = 18 ∧ 2 * (5 * (24 * h + t) + c) ≤ j ∧ j < 2 * (5 * (24 * h + t) + c) + 2) → D' a j = D a j)
    (ar : ∀ m, 0 ≤ m → m < D 13 (24 * h + r) → aOK D h t (D' 18 (2 * (5 * (24 * h + t) + c) + m)) ∧ S' (ty b t + 5) (2 * r + m) = D' 18 (2 * (5 * (24 * h + t) + c) + m)) : Hd S' b D' h t ∧ fCt S S' b t ∧ fRt D D' h t := by
  obtain ⟨H1, H2, H3⟩ := H
  obtain ⟨⟨g0, g1, g2, g3, g4, g5, g6, g7⟩, ⟨r1, r2, r3⟩, ⟨b1, b2⟩, ⟨f1, f2, f3⟩, ⟨k1, k2, k3⟩, bt, ow, fm, pr⟩ := H3
  have cf : fCt S S' b t := fun a j x1 x2 x3 => co a j (by omega) (by omega) (by omega) (by omega)
  have rf' : fRt D D' h t := fun a j x => dof a j (fun w => x (by unfold inTy; omega)) (fun w => x (by unfold inTy; omega)) (fun w => x (by unfold inTy; omega)) (fun w => x (by unfold inTy; omega))
  have ex : ∀ j, ¬ (j = 9 ∨ j = 11 ∨ j = 14) → S' (ty b t) j = S (ty b t) j := fun j g => co _ _ (by unfold ty; omega) (by omega) (by omega) (by omega)
  have e12 : ∀ y j, y = 1 ∨ y = 2 → S' (ty b t + y) j = S (ty b t + y) j := fun y j g => co _ _ (by unfold ty; omega) (by omega) (by omega) (by omega)
  have dx : ∀ a, ¬ a = 0 → ¬ (16 ≤ a ∧ a ≤ 19) → D' a = D a := fun a g1 g2 => funext (fun j => dof a j (by omega) (by omega) (by omega) (by omega))
  have rfo : ∀ m, 0 ≤ m → m < c → rf D' h t m = rf D h t m := fun m m0 m1 => dof 17 _ (by omega) (by omega) (by omega) (by omega)
  have rfc : rf D' h t c = r := w17
  have c0 : 0 ≤ c := by omega
  have aok : ∀ z, aOK D h t z → aOK D' h t z := fun z g => by unfold aOK at g ⊢; rw [dx 13 (by decide) (by decide)]; exact g
  refine ⟨⟨Hc_tr hb ht H1 cf rf', ?_, ⟨?_, ?_, ?_, ?_, ?_, ?_, ?_, fun k k0 k1 => ?_⟩, ⟨?_, fun x x0 x1 => ?_, ?_⟩, ⟨?_, fun k k0 k1 => ?_⟩, ⟨?_, fun x x0 x1 => ?_, fun x y x0 x1 x2 => ?_⟩, ⟨?_, ?_, ?_⟩, fun x x0 x1 => ?_, fun k k0 k1 => ?_, ?_, ?_⟩, cf, rf'⟩
  · unfold dsv at H2 ⊢
    rw [dx 13 (by decide) (by decide), dx 14 (by decide) (by decide)]; exact H2
  · rw [ex 0 (by decide)]; exact g0
  · rw [ex 1 (by decide), dx 8 (by decide) (by decide)]; exact g1
  · rw [ex 2 (by decide), dx 9 (by decide) (by decide)]; exact g2
  · rw [ex 3 (by decide), dx 10 (by decide) (by decide)]; exact g3
  · rw [ex 4 (by decide), dx 11 (by decide) (by decide)]; exact g4
  · rw [ex 5 (by decide), dx 12 (by decide) (by decide)]; exact g5
  · rw [ex 6 (by decide), dx 13 (by decide) (by decide)]; exact g6
  · rw [dx 13 (by decide) (by decide)] at k1
    rw [e12 1 k (by decide), e12 2 k (by decide), dx 14 (by decide) (by decide), dx 15 (by decide) (by decide)]
    exact g7 k k0 k1
  · rw [v9, w16]
  · rw [w16] at x1
    by_cases cx : x = c
    · rw [cx, v3, w17]
    · rw [co _ _ (by unfold ty; omega) (by omega) (by omega) (by omega), dof 17 _ (by omega) (by omega) (by omega) (by omega)]
      exact r2 x x0 (by omega)
  · by_cases cc : D 11 (24 * h + r) = 2
    · rw [v11' cc, w19' cc]; exact r3
    · rw [v11 cc, w19 cc, if_neg (by omega)]
  · rw [dx 13 (by decide) (by decide)]; exact b1
  · rw [dx 13 (by decide) (by decide)] at k1
    rw [dx 15 (by decide) (by decide)]; exact b2 k k0 k1
  · rw [w16]; omega
  · rw [w16] at x1
    by_cases cx : x = c
    · rw [cx, rfc, dx 13 (by decide) (by decide), dx 11 (by decide) (by decide)]
      refine ⟨rt, fun k k0 k1 => ?_, fun cc => ?_⟩
      · have := ar k k0 k1
        exact ⟨aok _ this.1, this.2⟩
      · exact ⟨(cl cc).2, w19 cc, (cl cc).1⟩
    · have xc : x < c := by omega
      have f2x := f2 x x0 (by omega)
      have ne : ¬ rf D h t x = r := fun w => nr ⟨x, x0, by omega, w⟩
      rw [rfo x x0 xc, dx 13 (by decide) (by decide), dx 11 (by decide) (by decide)]
      refine ⟨f2x.1, fun k k0 k1 => ?_, fun cc => ?_⟩
      · have v2 := (H1.2.1 _ f2x.1.1 f2x.1.2).2.2
        have q := f2x.2.1 k k0 k1
        have er : rk D' h t x k = rk D h t x k := dof 18 _ (by omega) (by omega) (by omega) (by omega)
        rw [er, co _ _ (by unfold ty; omega) (by omega) (by omega) (by omega)]
        exact ⟨aok _ q.1, q.2⟩
      · have q := f2x.2.2 cc
        by_cases c2 : D 11 (24 * h + r) = 2
        · rw [w19' c2]; exact q
        · have := (cl c2).2; omega
  · rw [w16] at x2
    by_cases cy : y = c
    · rw [cy, rfc, rfo x x0 (by omega)]
      exact fun w => nr ⟨x, x0, by omega, w⟩
    · rw [rfo x x0 (by omega), rfo y (by omega) (by omega)]
      exact f3 x y x0 x1 (by omega)
  · rw [ex 12 (by decide)]; exact k1
  · rw [ex 18 (by decide)]; exact k2
  · rw [ex 19 (by decide)]; exact k3
  · rw [v14, bit_or ⟨rt.1, by omega⟩ ⟨x0, x1⟩, bt x x0 x1]
    constructor
    · rintro (w | w)
      · obtain ⟨m, m0, m1, m2⟩ := w
        exact ⟨m, m0, by rw [w16]; omega, by rw [rfo m m0 (by omega)]; exact m2⟩
      · exact ⟨c, c0, by rw [w16]; omega, by rw [rfc]; exact w.symm⟩
    · rintro ⟨m, m0, m1, m2⟩
      rw [w16] at m1
      by_cases cm : m = c
      · right; rw [cm, rfc] at m2; exact m2.symm
      · left; exact ⟨m, m0, by omega, by rw [rfo m m0 (by omega)] at m2; exact m2⟩
  · rw [dx 13 (by decide) (by decide)] at k1
    rw [co _ _ (by unfold ty; omega) (by omega) (by omega) (by omega)]; exact ow k k0 k1
  · rw [dx 11 (by decide) (by decide)]; exact fm
  · by_cases cc : D 11 (24 * h + r) = 2
    · rw [w19' cc]
      rcases pr with w | ⟨w1, w2, w3⟩
      · exact Or.inl w
      · right
        rw [rfo 0 (Int.le_refl _) (by omega), dx 11 (by decide) (by decide)]
        exact ⟨by omega, w2, w3⟩
    · right
      have z := (cl cc).2
      rw [← z, rfc, dx 11 (by decide) (by decide), w16]
      exact ⟨by omega, w19 cc, cc⟩
theorem J_ref {k0 k1 : St → Prop} (hb : b = 2 ∨ b = 515) (hh : half01 h) (ht : 0 ≤ t ∧ t < 24) (K : Tks T n N te so va pl) (C : CTk N so va pl S i) (R : RTk T n te so va pl D i) (H : Hd S b D h t) (f2 : ∀ u, 0 ≤ u → u < t → D 11 (24 * h + u) ≤ 2)
    (h1 : ∀ S' D' j s, i < j → CTk N so va pl S' j → RTk T n te so va pl D' j → fCt S S' b t → fRt D D' h t → Hd S' b D' h t → S' 1032 11 = s → (s = 2 ∧ (∀ k' : St → Prop, RKr D' h t k' → RKr D h t k')) ∨ (s = 3 ∧ (∀ k' : St → Prop, wX8_readType_292 D' t k' → RKr D h t k')) → k1 S')
    (h0 : ∀ S' D', FO S D b h S' D' → (∀ k' : St → Prop, k' D' → RKr D h t k') → k0 S') : wX4_readRef S (fun x S_5 => (x = 0 → k0 S_5) ∧ (¬ x = 0 → wX4_readArguments S_5 (fun y S_7 => (y = 0 → k0 S_7) ∧ (¬ y = 0 → k1 S_7)))) := by
  have h01 : 0 ≤ h ∧ h ≤ 1 := by unfold half01 at hh; omega
  refine J_readRef hb hh ht K C R H f2 (fun S1 D1 r c C1 r1 wc wr rt ec c4 nr cl run1 => ⟨fun z => absurd z (by decide), fun _ => ?_⟩) (fun S1 D1 fo run1 => ⟨fun _ => h0 S1 D1 fo run1, fun z => absurd rfl z⟩)
  obtain ⟨⟨w1, w2, w3, w4⟩, w5, w6, w7⟩ := wc
  obtain ⟨⟨x1, x2⟩, x3, x4, x5⟩ := wr
  have c0 : 0 ≤ c := by rw [ec]; exact H.2.2.2.2.2.1.1.1
  have mc1 : mC S S1 b t := fun a j g1 g2 g3 g4 => w7 a j (by omega) (by omega) (by omega)
  have mr1 : mR D D1 h t := fun a j g1 g2 g3 g4 => x5 a j g1 (by omega) (by omega)
  have M1 : Md S1 b D1 h t := H.md.tr hb ht mc1 mr1
  have d13 : D1 13 (24 * h + r) = D 13 (24 * h + r) := x5 _ _ (by omega) (by omega) (by omega)
  refine J_args (r := r) (c := c) hb hh ht K C1 r1 M1 w4 (by omega) ⟨c0, c4⟩ (fun S2 D2 j q ij hq C2 r2 ar fc fr run2 => ?_) (fun S2 D2 fo run2 => ⟨fun _ => ?_, fun z => absurd rfl z⟩)
  · have mc2 : mC S1 S2 b t := fun a j g1 g2 g3 g4 => fc a j (by omega) (by omega)
    have mr2 : mR D1 D2 h t := fun a j g1 g2 g3 g4 => fr a j g1 (by omega)
    have M2 := M1.tr hb ht mc2 mr2
    have s13 : S2 1032 13 = r := by rw [fc _ _ (by omega) (by unfold ty; omega)]; exact w4
    refine J_refend (D0 := D) (q := q) hb hh ht K C2 r2 M2 s13 rt (fun P k' hk => run1 P k' (run2 P k' hk)) (fun S3 D3 s C3 r3 eq c3 o3 s3 hs => ⟨fun z => absurd z (by decide), fun _ => ?_⟩) (fun S3 D3 fo run3 => ⟨fun _ => ?_, fun z => absurd rfl z⟩)
    · rw [fr _ _ (by omega) (by omega), d13] at eq
      have HH : Hd S3 b D3 h t ∧ fCt S S3 b t ∧ fRt D D3 h t := by
        refine Hd_ref (S' := S3) (D' := D3) hb hh ht H ec c4 rt nr cl ?_ ?_ ?_ (fun z => ?_) (fun z => ?_) (fun a j g1 g2 g3 g4 => ?_) ?_ ?_ (fun z => ?_) (fun z => ?_) (fun a j g1 g2 g3 g4 => ?_) (fun m m0 m1 => ?_)
        · rw [c3 _ _ (by unfold ty; omega), fc _ _ (by unfold ty; omega) (by omega)]; exact w1
        · rw [c3 _ _ (by unfold ty; omega), fc _ _ (by unfold ty; omega) (by omega)]; exact w2
        · rw [c3 _ _ (by unfold ty; omega), fc _ _ (by unfold ty; omega) (by omega)]; exact w3
        · rw [c3 _ _ (by unfold ty; omega), fc _ _ (by unfold ty; omega) (by omega)]; exact w5 z
        · rw [c3 _ _ (by unfold ty; omega), fc _ _ (by unfold ty; omega) (by omega)]; exact w6 (fun w => w z)
        · rw [c3 _ _ (by omega), fc _ _ (by omega) g4]; exact w7 a j (by omega) g2 g3
        · rw [o3 _ _ (by omega), fr _ _ (by omega) (by omega)]; exact x1
        · rw [o3 _ _ (by omega), fr _ _ (by omega) (by omega)]; exact x2
        · rw [o3 _ _ (by omega), fr _ _ (by omega) (by omega)]; exact x3 z
        · rw [o3 _ _ (by omega), fr _ _ (by omega) (by omega)]; exact x4 (fun w => w z)
        · rw [o3 _ _ g1, fr _ _ g1 g4]; exact x5 a j g1 g2 g3
        · have q1 := ar m m0 (by omega)
          rw [o3 _ _ (by omega), c3 _ _ (by unfold ty; omega)]
          refine ⟨?_, q1.2⟩
          have q2 := q1.1
          unfold aOK at q2 ⊢
          rw [x5 13 _ (by omega) (by omega) (by omega)] at q2
          exact q2
      exact h1 S3 D3 (j + 1) s (by omega) C3 r3 HH.2.1 HH.2.2 HH.1 s3 hs
    · exact h0 S3 D3 (FO_tr hb ht (mc1.tr mc2).f (mr1.tr mr2).f fo) run3
  · have fo' := FO_tr hb ht mc1.f mr1.f fo
    refine h0 S2 D2 fo' (fun k' hk => ?_)
    have met := FO_met fo'
    unfold RKr wX8_readRefs_12
    refine wlp_step (a' := (0, D2)) (fun P hp => run1 (fun b0 b1 => P (b0, b1)) _ (run2 _ _ hp)) (wlp_exit (fun P => ?_))
    show wX8_readRefs_12_b D2 t (24 * h + t) 0 (fun b0 b1 => P (b0, b1)) _
    unfold wX8_readRefs_12_b
    exact ⟨fun _ => R_286_no met hk, fun z => absurd rfl z⟩
end Ref2
