/-! pure: reading: a type's head, both together -/
/-- behind a fault a type's reading does nothing more -/
theorem R_292_no {D : St} {t : Int} {k : St → Prop} (g : ¬ D 0 8 = 0) (hk : k D) : wX8_readType_292 D t k := by
  unfold wX8_readType_292
  refine wlp_exit (fun P => ?_)
  show wX8_readType_292_b D t (fun b0 => P b0) k
  unfold wX8_readType_292_b wX8_goesOn wX8_goesOn_0 wX8_readType_316 wX8_goesOn wX8_goesOn_0 wX8_readType_328 wX8_goesOn wX8_goesOn_0
  refine ⟨fun _ => ⟨fun _ => ⟨fun _ => ⟨fun _ => ⟨fun _ => ⟨fun _ => hk, fun z => absurd rfl z⟩, fun z => absurd z g⟩, fun z => absurd rfl z⟩, fun z => absurd z g⟩, fun z => absurd rfl z⟩, fun z => absurd z g⟩
theorem R_286_no {D : St} {t : Int} {k : St → Prop} (g : ¬ D 0 8 = 0) (hk : k D) : wX8_readType_286 D t k := by
  unfold wX8_readType_286
  exact R_take_no g (R_292_no g hk)
theorem R_272_no {D : St} {t : Int} {k : St → Prop} (g : ¬ D 0 8 = 0) (hk : k D) : wX8_readType_272 D t k := by
  unfold wX8_readType_272
  exact R_is_no g ⟨fun _ => R_286_no g hk, fun z => absurd rfl z⟩
theorem R_253_no {D : St} {t f : Int} {k : St → Prop} (g : ¬ D 0 8 = 0) (hk : k D) : wX8_readType_253 D t f k := by
  unfold wX8_readType_253
  exact ⟨fun _ => R_272_no g hk, fun _ => R_is_no g ⟨fun _ => R_272_no g hk, fun z => absurd rfl z⟩⟩
/-- the reference at a REF; inside a type -/
def RKr (D : St) (h t : Int) (k : St → Prop) : Prop := wX8_readRefs_12 D t (24 * h + t) 1 (fun S => wX8_readType_286 S t k)
section Head2
variable {T te so va pl : Int → Int} {n N i b h t f : Int} {S D : St}
theorem FO_met {S0 D0 S' D' : St} (g : FO S0 D0 b h S' D') : ¬ D' 0 8 = 0 := by
  obtain ⟨f, p, f1, _, _, e, _⟩ := g
  omega
theorem FO_tr {S0 D0 S' D' : St} (hb : b = 2 ∨ b = 515) (ht : 0 ≤ t ∧ t < 24) (c : fCt S0 S b t) (r : fRt D0 D h t) (g : FO S D b h S' D') : FO S0 D0 b h S' D' := by
  obtain ⟨f, p, f1, a1, a2, a3, a4, a5, a6⟩ := g
  exact ⟨f, p, f1, a1, a2, a3, a4, (offFam_t hb ht c).tr a5, (offH_t ht r).tr a6⟩
theorem R_172_no {P : Int → St → Prop} {k : St → Prop} {x : Int} (R : RTk T n te so va pl D i) (ok : srtOK (so i)) (hx : 0 ≤ x ∧ x < 48) (z : so i = 44 → 2 ≤ D 13 x) (hk : P 0 D) : wX8_readVars_172 D t x P k := by
  have e : wX8_readVars_195 D t x P k := by
    unfold wX8_readVars_195 wX8_readVars_196
    exact ⟨fun _ => hk, fun z => absurd rfl z⟩
  unfold wX8_readVars_172
  exact R_isS R ok (x := 44) (by unfold srtOK; omega) (by decide) (fun w => ⟨fun z => absurd z (by decide), fun _ => ⟨hx, fun _ => e, fun z2 => by have := z w; omega⟩⟩) (fun w => ⟨fun _ => e, fun z => absurd rfl z⟩)
theorem R_172_go {P : Int → St → Prop} {k : St → Prop} {x : Int} (R : RTk T n te so va pl D i) (ok : srtOK (so i)) (hx : 0 ≤ x ∧ x < 48) (z : so i = 44) (v : D 13 x < 2) (hk : wX8_next D (fun S => P 1 S)) : wX8_readVars_172 D t x P k := by
  unfold wX8_readVars_172
  refine R_isS R ok (x := 44) (by unfold srtOK; omega) (by decide) (fun w => ⟨fun z => absurd z (by decide), fun _ => ⟨hx, fun z2 => by omega, fun _ => ?_⟩⟩) (fun w => absurd z w)
  unfold wX8_readVars_196
  exact ⟨fun z => absurd z (by decide), fun _ => hk⟩
theorem R_vend {k : St → Prop} {x : Int} (hk : wX8_take D 62 k) : wX8_readVars_12 D t x 0 k := by
  unfold wX8_readVars_12
  refine wlp_exit (fun P => ?_)
  show wX8_readVars_12_b D t x 0 (fun b0 b1 => P (b0, b1)) k
  unfold wX8_readVars_12_b
  exact ⟨fun _ => hk, fun z => absurd rfl z⟩
theorem R_vstep {k : St → Prop} {x y : Int} {D' : St} (hs : ∀ P : Int → St → Prop, P y D' → wX8_readVars_12_b D t x 1 P k) (hk : wX8_readVars_12 D' t x y k) : wX8_readVars_12 D t x 1 k := by
  unfold wX8_readVars_12 at hk ⊢
  exact wlp_step (a' := (y, D')) (fun P hp => hs (fun b0 b1 => P (b0, b1)) hp) hk
theorem R_vfail {k : St → Prop} {x : Int} (hs : ∀ P : Int → St → Prop, wX8_readVars_12_b D t x 1 P k) : wX8_readVars_12 D t x 1 k := by
  unfold wX8_readVars_12
  exact wlp_exit (fun P => hs (fun b0 b1 => P (b0, b1)))
theorem J_readVars {k : Int → St → Prop} (hb : b = 2 ∨ b = 515) (hh : half01 h) (ht : 0 ≤ t ∧ t < 24) (K : Tks T n N te so va pl) (C : CTk N so va pl S i) (R : RTk T n te so va pl D i) (H : Hd S b D h t) (z16 : D 16 (24 * h + t) = 0) (z13 : D 13 (24 * h + t) = 0)
    (h1 : ∀ S' D' j, i ≤ j → CTk N so va pl S' j → RTk T n te so va pl D' j → fCt S S' b t → fRt D D' h t → Hd S' b D' h t → D' 16 (24 * h + t) = 0 → (∀ k' : St → Prop, wX8_readType_253 D' t f k' → RKn D t f k') → k 1 S')
    (h0 : ∀ S' D', FO S D b h S' D' → (∀ k' : St → Prop, k' D' → RKn D t f k') → k 0 S') : wX4_readVars S k := by
  have h01 : 0 ≤ h ∧ h ≤ 1 := by unfold half01 at hh; omega
  have t1 := K.2.2.1 i C.1.1 C.1.2
  unfold wX4_readVars wX4_readVars_0
  rw [C.2.2.2.2.2.2.1]
  refine ⟨fun si => ?_, fun si => h1 S D i (Int.le_refl _) C R (fun _ _ _ _ _ => rfl) (fun _ _ _ => rfl) H z16 (fun k' hk => ?_)⟩
  rotate_left
  · unfold RKn
    exact R_isS R t1.2.1 (x := 60) (by unfold srtOK; omega) (by decide) (fun w => absurd w si) (fun w => ⟨fun _ => hk, fun z => absurd rfl z⟩)
  · obtain ⟨D1, ⟨r1, o1⟩, n1⟩ := R_nx K C.1 R (by omega)
    have run1 : ∀ k' : St → Prop, wX8_readVars_12 D1 t (24 * h + t) 1 (fun S_36 => wX8_readType_253 S_36 t f k') → RKn D t f k' := by
      intro k' hk
      unfold RKn
      refine R_isS R t1.2.1 (x := 60) (by unfold srtOK; omega) (by decide) (fun w => ⟨fun z => absurd z (by decide), fun _ => ?_⟩) (fun w => absurd si w)
      unfold wX8_readVars wX8_readVars_0 wX8_t wX8_t_0
      rw [H.1.1.2.1, w32_eq (x := 24 * h) (by omega) (by omega), w32_eq (x := 24 * h + t) (by omega) (by omega)]
      exact n1 _ hk
    refine C_adv K C (by omega) (fun S1 a1 C1 => ?_)
    have eS : ∀ c, 0 ≤ c → c ≤ 5 → S1 (ty b t + c) = S (ty b t + c) := fun c c0 c5 => funext (fun j => a1 _ _ (by unfold ty; omega))
    have eD : ∀ a, ¬ a = 0 → D1 a = D a := fun a g => funext (fun j => o1 _ _ (by omega))
    have H1 : Hd S1 b D1 h t := by
      obtain ⟨x1, x2, x3⟩ := H
      refine ⟨Hc_tr hb ht x1 (fCt_Ad a1) (fRt_N o1), ?_, ?_⟩
      · unfold dsv at x2 ⊢
        rw [eD 13 (by decide), eD 14 (by decide)]; exact x2
      · have es0 : S1 (ty b t) = S (ty b t) := by have := eS 0 (by decide) (by decide); rwa [Int.add_zero] at this
        unfold RDt rT rR isRf rf rk aOK at x3 ⊢
        rw [es0, eS 1 (by decide) (by decide), eS 2 (by decide) (by decide), eS 3 (by decide) (by decide), eS 5 (by decide) (by decide), eD 8 (by decide), eD 9 (by decide), eD 10 (by decide), eD 11 (by decide), eD 12 (by decide), eD 13 (by decide), eD 14 (by decide), eD 15 (by decide), eD 16 (by decide), eD 17 (by decide), eD 18 (by decide), eD 19 (by decide)]
        exact x3
    have endv : ∀ S6 D6 j, i < j → CTk N so va pl S6 j → RTk T n te so va pl D6 j → fCt S S6 b t → fRt D D6 h t → Hd S6 b D6 h t → D6 16 (24 * h + t) = 0 → (∀ k' : St → Prop, wX8_take D6 62 (fun S_36 => wX8_readType_253 S_36 t f k') → RKn D t f k') → wX4_readVars_67 S6 k := by
      intro S6 D6 j ij C6 r6 c6 f6 H6 z6 run6
      unfold wX4_readVars_67
      refine J_take K C6 r6 (x := 62) (y := 62) (by unfold srtOK; omega) (by decide) (by decide) (fun _ S7 D7 a7 C7 o7 r7 n7 => ⟨Or.inr rfl, ?_⟩) (fun S7 D7 g7 f7 n7 => ⟨Or.inl rfl, ?_⟩)
      · have eS : ∀ c, 0 ≤ c → c ≤ 5 → S7 (ty b t + c) = S6 (ty b t + c) := fun c c0 c5 => funext (fun j => a7 _ _ (by unfold ty; omega))
        have eD : ∀ a, ¬ a = 0 → D7 a = D6 a := fun a g => funext (fun j => o7 _ _ (by omega))
        refine h1 S7 D7 (j + 1) (by omega) C7 r7 (c6.tr (fCt_Ad a7)) (f6.tr (fRt_N o7)) ?_ (by rw [eD 16 (by decide)]; exact z6) (fun k' hk => run6 k' (n7 _ hk))
        obtain ⟨x1, x2, x3⟩ := H6
        refine ⟨Hc_tr hb ht x1 (fCt_Ad a7) (fRt_N o7), ?_, ?_⟩
        · unfold dsv at x2 ⊢
          rw [eD 13 (by decide), eD 14 (by decide)]; exact x2
        · have es0 : S7 (ty b t) = S6 (ty b t) := by have := eS 0 (by decide) (by decide); rwa [Int.add_zero] at this
          unfold RDt rT rR isRf rf rk aOK at x3 ⊢
          rw [es0, eS 1 (by decide) (by decide), eS 2 (by decide) (by decide), eS 3 (by decide) (by decide), eS 5 (by decide) (by decide), eD 8 (by decide), eD 9 (by decide), eD 10 (by decide), eD 11 (by decide), eD 12 (by decide), eD 13 (by decide), eD 14 (by decide), eD 15 (by decide), eD 16 (by decide), eD 17 (by decide), eD 18 (by decide), eD 19 (by decide)]
          exact x3
      · have fo : FO S D b h S7 D7 := FO_mk hb (msf_pos _) (offFam_t hb ht c6) (offH_t ht f6) g7 f7
        exact h0 S7 D7 fo (fun k' hk => run6 k' (n7 _ (R_253_no (FO_met fo) hk)))
    have i24 : 0 ≤ 24 * h + t ∧ 24 * h + t < 48 := by omega
    unfold wX4_readVars_17
    refine ⟨2, ?_⟩
    show wX4_readVars_17_b S1 0 (fun b0 b1 => itP (fun (P : Int × St → Prop) (a : Int × St) => wX4_readVars_17_b a.2 a.1 (fun b0 b1 => P (b0, b1)) k) 1 (b0, b1)) k
    unfold wX4_readVars_17_b
    refine ⟨fun z => absurd z (by decide), fun _ => J_var hb hh ht K C1 r1 H1 (by rw [eD 16 (by decide)]; exact z16) (by rw [eD 13 (by decide)]; exact z13) (by decide) (fun S2 D2 j ij C2 r2 c2 f2 H2 z2 v2 run2 => ?_) (fun S2 D2 fo run2 => ?_)⟩
    · have t2 := K.2.2.1 j C2.1.1 C2.1.2
      have cc := (fCt_Ad a1).tr c2
      have ff := (fRt_N o1).tr f2
      refine ⟨fun z => absurd z (by decide), fun _ => ?_⟩
      rw [C2.2.2.2.2.2.2.1]
      refine ⟨fun s44 => ?_, fun s44 => endv S2 D2 j (by omega) C2 r2 cc ff H2 z2 (fun k' hk => run1 k' (R_vstep (y := 0) (fun P hp => run2 P _ (R_172_no r2 t2.2.1 i24 (fun w => absurd w s44) hp)) (R_vend hk)))⟩
      obtain ⟨D3, ⟨r3, o3⟩, n3⟩ := R_nx K C2.1 r2 (by omega)
      refine C_adv K C2 (by omega) (fun S3 a3 C3 x ex => ?_)
      rw [ex, w32_eq (by decide) (by decide)]
      have eS : ∀ c, 0 ≤ c → c ≤ 5 → S3 (ty b t + c) = S2 (ty b t + c) := fun c c0 c5 => funext (fun j => a3 _ _ (by unfold ty; omega))
      have eD : ∀ a, ¬ a = 0 → D3 a = D2 a := fun a g => funext (fun j => o3 _ _ (by omega))
      have H3 : Hd S3 b D3 h t := by
        obtain ⟨x1, x2, x3⟩ := H2
        refine ⟨Hc_tr hb ht x1 (fCt_Ad a3) (fRt_N o3), ?_, ?_⟩
        · unfold dsv at x2 ⊢
          rw [eD 13 (by decide), eD 14 (by decide)]; exact x2
        · have es0 : S3 (ty b t) = S2 (ty b t) := by have := eS 0 (by decide) (by decide); rwa [Int.add_zero] at this
          unfold RDt rT rR isRf rf rk aOK at x3 ⊢
          rw [es0, eS 1 (by decide) (by decide), eS 2 (by decide) (by decide), eS 3 (by decide) (by decide), eS 5 (by decide) (by decide), eD 8 (by decide), eD 9 (by decide), eD 10 (by decide), eD 11 (by decide), eD 12 (by decide), eD 13 (by decide), eD 14 (by decide), eD 15 (by decide), eD 16 (by decide), eD 17 (by decide), eD 18 (by decide), eD 19 (by decide)]
          exact x3
      have c3 := cc.tr (fCt_Ad a3)
      have f3 := ff.tr (fRt_N o3)
      have run3 : ∀ k' : St → Prop, wX8_readVars_12 D3 t (24 * h + t) 1 (fun S_36 => wX8_readType_253 S_36 t f k') → RKn D t f k' := fun k' hk => run1 k' (R_vstep (y := 1) (D' := D3) (fun P hp => run2 P _ (R_172_go r2 t2.2.1 i24 s44 (by omega) (n3 _ hp))) hk)
      show wX4_readVars_17_b S3 (0 + 1) (fun b0 b1 => itP (fun (P : Int × St → Prop) (a : Int × St) => wX4_readVars_17_b a.2 a.1 (fun b0 b1 => P (b0, b1)) k) 0 (b0, b1)) k
      unfold wX4_readVars_17_b
      refine ⟨fun z => absurd z (by decide), fun _ => J_var hb hh ht K C3 r3 H3 (by rw [eD 16 (by decide)]; exact z2) (by rw [eD 13 (by decide)]; exact v2) (by decide) (fun S4 D4 j4 ij4 C4 r4 c4 f4 H4 z4 v4 run4 => ?_) (fun S4 D4 fo run4 => ?_)⟩
      · have t4 := K.2.2.1 j4 C4.1.1 C4.1.2
        refine ⟨fun _ => endv S4 D4 j4 (by omega) C4 r4 (c3.tr c4) (f3.tr f4) H4 z4 (fun k' hk => run3 k' (R_vstep (y := 0) (fun P hp => run4 P _ (R_172_no r4 t4.2.1 i24 (fun w => by omega) hp)) (R_vend hk))), fun z => absurd rfl z⟩
      · have fo' := FO_tr hb ht c3 f3 fo
        exact h0 S4 D4 fo' (fun k' hk => run3 k' (R_vfail (fun P => run4 P _ (R_253_no (FO_met fo') hk))))
    · have fo' := FO_tr hb ht (fCt_Ad a1) (fRt_N o1) fo
      exact h0 S2 D2 fo' (fun k' hk => run1 k' (R_vfail (fun P => run2 P _ (R_253_no (FO_met fo') hk))))
end Head2
