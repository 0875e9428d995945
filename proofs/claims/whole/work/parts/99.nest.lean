/-! pure: reading: the nest; the end of a head, both together -/
/-- another type that a NAME stands for -/
def oth (D : St) (h t v r : Int) : Prop := seT D h t v r ∧ ¬ r = t
section Nest
variable {T te so va pl : Int → Int} {n N i b h t f v : Int} {S D S' D' : St}
theorem Hd_adv (hb : b = 2 ∨ b = 515) (ht : 0 ≤ t ∧ t < 24) (H : Hd S b D h t) (a : ∀ x j, ¬ (x = 1032 ∧ ((4 ≤ j ∧ j ≤ 6) ∨ j = 11 ∨ j = 13)) → S' x j = S x j) (o : offN D D') : Hd S' b D' h t := by
  have eS : ∀ c, 0 ≤ c → c ≤ 5 → S' (ty b t + c) = S (ty b t + c) := fun c c0 c5 => funext (fun j => a _ _ (by unfold ty; omega))
  have eD : ∀ a, ¬ a = 0 → D' a = D a := fun a g => funext (fun j => o _ _ (by omega))
  obtain ⟨x1, x2, x3⟩ := H
  refine ⟨Hc_tr hb ht x1 (fun x j g _ _ => a x j g) (fRt_N o), ?_, ?_⟩
  · unfold dsv at x2 ⊢
    rw [eD 13 (by decide), eD 14 (by decide)]; exact x2
  · have es0 : S' (ty b t) = S (ty b t) := by have := eS 0 (by decide) (by decide); rwa [Int.add_zero] at this
    unfold RDt rT rR isRf rf rk aOK at x3 ⊢
    rw [es0, eS 1 (by decide) (by decide), eS 2 (by decide) (by decide), eS 3 (by decide) (by decide), eS 5 (by decide) (by decide), eD 8 (by decide), eD 9 (by decide), eD 10 (by decide), eD 11 (by decide), eD 12 (by decide), eD 13 (by decide), eD 14 (by decide), eD 15 (by decide), eD 16 (by decide), eD 17 (by decide), eD 18 (by decide), eD 19 (by decide)]
    exact x3
theorem Hd_nest {r : Int} (hb : b = 2 ∨ b = 515) (ht : 0 ≤ t ∧ t < 24) (H : Hd S b D h t) (a : ∀ x j, ¬ (x = 1032 ∧ 4 ≤ j ∧ j ≤ 6) → ¬ (x = ty b t ∧ j = 5) → S' x j = S x j) (o : ∀ x j, ¬ (x = 0 ∧ 4 ≤ j ∧ j ≤ 7) → ¬ (x = 12 ∧ j = 24 * h + t) → D' x j = D x j) (c5 : S' (ty b t) 5 = r) (d12 : D' 12 (24 * h + t) = r) : Hd S' b D' h t ∧ fCt S S' b t ∧ fRt D D' h t := by
  have eS : ∀ c, 1 ≤ c → c ≤ 5 → S' (ty b t + c) = S (ty b t + c) := fun c c0 c5 => funext (fun j => a _ _ (by unfold ty; omega) (by omega))
  have e0 : ∀ j, ¬ j = 5 → S' (ty b t) j = S (ty b t) j := fun j g => a _ _ (by unfold ty; omega) (by omega)
  have eD : ∀ a, ¬ a = 0 → ¬ a = 12 → D' a = D a := fun a g g2 => funext (fun j => o _ _ (by omega) (by omega))
  obtain ⟨x1, x2, x3⟩ := H
  have fc : fCt S S' b t := fun x j g g2 _ => a x j (by omega) (by omega)
  have fr : fRt D D' h t := fun x j g => o x j (fun w => g (Or.inl w)) (fun w => g (Or.inr (Or.inl (by omega))))
  refine ⟨⟨Hc_tr hb ht x1 fc fr, ?_, ?_⟩, fc, fr⟩
  · unfold dsv at x2 ⊢
    rw [eD 13 (by decide) (by decide), eD 14 (by decide) (by decide)]; exact x2
  · unfold RDt rT rR isRf rf rk aOK at x3 ⊢
    rw [e0 0 (by decide), e0 1 (by decide), e0 2 (by decide), e0 3 (by decide), e0 4 (by decide), e0 6 (by decide), e0 9 (by decide), e0 11 (by decide), e0 12 (by decide), e0 14 (by decide), e0 18 (by decide), e0 19 (by decide), eS 1 (by decide) (by decide), eS 2 (by decide) (by decide), eS 3 (by decide) (by decide), eS 5 (by decide) (by decide), eD 8 (by decide) (by decide), eD 9 (by decide) (by decide), eD 10 (by decide) (by decide), eD 11 (by decide) (by decide), eD 13 (by decide) (by decide), eD 14 (by decide) (by decide), eD 15 (by decide) (by decide), eD 16 (by decide) (by decide), eD 17 (by decide) (by decide), eD 18 (by decide) (by decide), eD 19 (by decide) (by decide), c5, d12]
    obtain ⟨⟨y0, y1, y2, y3, y4, y5, y6⟩, z⟩ := x3
    exact ⟨⟨y0, y1, y2, y3, y4, rfl, y6⟩, z⟩
theorem C_osn {k : Int → Prop} (hb : b = 2 ∨ b = 515) (ht : 0 ≤ t ∧ t < 24) (H : Hd S b D h t) (h1 : ∀ r, oth D h t v r → k r) (h0 : (∀ r, ¬ oth D h t v r) → k (-1)) : wX4_otherTypeSeen S v k := by
  obtain ⟨⟨⟨e3, hD, c1, d3, c12⟩, Hu, ds⟩, dv, Kt⟩ := id H
  unfold wX4_otherTypeSeen wX4_otherTypeSeen_0
  intro x ex
  rw [ex, c12, Kt.1.2.1]
  refine ⟨isO_t hb ht, fun ne => C_tsn (h := h) (D := D) hb ht e3 c1 c12 (Hc_nm H.1 Kt.1) ds (fun r g => h1 r ⟨g, fun z => ne ?_⟩) (fun g => h0 (fun r w => g ⟨r, w.1⟩)), fun e => h0 (fun r w => w.2 ?_)⟩
  · rw [← z]; exact g.2.1.symm
  · exact seT_one ds w.1 ⟨⟨ht.1, Int.le_refl _⟩, e.symm, Or.inl rfl⟩
theorem R_osn {A : Prop} {B : Int → Prop} (hh : half01 h) (ht : 0 ≤ t ∧ t < 24) (hD : D 0 10 = h) (ds : dst D h t) (h1 : ∀ r, oth D h t v r → B r) (h0 : (∀ r, ¬ oth D h t v r) → A) : wX8_seenType D v t (fun x_6 => (x_6 < 0 → A) ∧ (0 ≤ x_6 → (¬ x_6 = t → B x_6) ∧ (x_6 = t → A))) := by
  refine R_tsn hh hD ht ds (fun r g => ⟨fun z => ?_, fun _ => ⟨fun ne => h1 r ⟨g, ne⟩, fun e => h0 (fun r' w => w.2 ?_)⟩⟩) (fun g => ⟨fun _ => h0 (fun r w => g ⟨r, w.1⟩), fun z => absurd z (by decide)⟩)
  · have := g.1.1; clear h0 h1; omega
  · rw [seT_one ds w.1 g]; exact e
theorem J_readNest {k : Int → St → Prop} (hb : b = 2 ∨ b = 515) (hh : half01 h) (ht : 0 ≤ t ∧ t < 24) (K : Tks T n N te so va pl) (C : CTk N so va pl S i) (R : RTk T n te so va pl D i) (H : Hd S b D h t) (ef : D 11 (24 * h + t) = f)
    (h1 : ∀ S' D' j, i ≤ j → CTk N so va pl S' j → RTk T n te so va pl D' j → fCt S S' b t → fRt D D' h t → Hd S' b D' h t → D' 16 (24 * h + t) = D 16 (24 * h + t) → (∀ k' : St → Prop, wX8_readType_272 D' t k' → wX8_readType_253 D t f k') → k 1 S')
    (h0 : ∀ S' D', FO S D b h S' D' → (∀ k' : St → Prop, k' D' → wX8_readType_253 D t f k') → k 0 S') : wX4_readNest S k := by
  have N4 := K.1.2
  have h01 : 0 ≤ h ∧ h ≤ 1 := by unfold half01 at hh; omega
  have it := isO_t hb ht
  have ib := isO_b hb
  obtain ⟨⟨⟨e3, hD, c1, d3, c12⟩, Hu, ds⟩, dv, Kt⟩ := id H
  have f02 := Kt.2.2.2.2.2.2.2.1
  have t1 := K.2.2.1 i C.1.1 C.1.2
  have none : (f = 2 ∨ ¬ so i = 204) → k 1 S := fun z => h1 S D i (Int.le_refl _) C R (fun _ _ _ _ _ => rfl) (fun _ _ _ => rfl) H rfl (fun k' hk => by
    unfold wX8_readType_253
    refine ⟨fun _ => hk, fun z2 => R_isS R t1.2.1 (x := 204) (by unfold srtOK; omega) (by decide) (fun w => ?_) (fun w => ⟨fun _ => hk, fun z => absurd rfl z⟩)⟩
    rcases z with z | z
    · omega
    · exact absurd w z)
  unfold wX4_readNest wX4_readNest_0
  intro x ex
  rw [ex, c12, C.2.2.2.2.2.2.1]
  refine ⟨it, ?_⟩
  unfold wX6_isFace wX6_isFace_0
  rw [Kt.1.2.2.2.2.1, ef]
  refine ⟨fun nf => ⟨fun z => absurd rfl z, fun _ => ⟨fun si => ?_, fun si => none (Or.inr si)⟩⟩, fun e2 => ⟨fun _ => none (Or.inl e2), fun z => absurd z (by decide)⟩⟩
  obtain ⟨D1, ⟨r1, o1⟩, n1⟩ := R_nx K C.1 R (by omega)
  refine C_adv K C (by omega) (fun S1 a1 C1 => ?_)
  have H1 := Hd_adv hb ht H (fun x j g => a1 x j (by omega)) o1
  have t2 := K.2.2.1 (i + 1) C1.1.1 C1.1.2
  have run1 : ∀ k' : St → Prop, wX8_is D1 2 (fun x_3 => (¬ x_3 = 0 → wX8_seenType D1 (D1 0 7) t (fun x_6 => (x_6 < 0 → wX8_readNest_36 D1 (fun S_6 => wX8_readType_272 S_6 t k')) ∧ (0 ≤ x_6 → (¬ x_6 = t → wX8_isSamePackage D1 x_6 t (fun x_9 => (x_9 = 0 → wX8_readNest_69 D1 (fun S_6 => wX8_readType_272 S_6 t k')) ∧ (¬ x_9 = 0 → wX8_t D1 x_6 (fun x_12 => (0 ≤ x_12 ∧ x_12 < 48) ∧ ((D1 12 x_12 = x_6 → wX8_t D1 t (fun x_16 => (0 ≤ x_16 ∧ x_16 < 48) ∧ (∀ S_17 : St, S_17 = up D1 12 x_16 x_6 → wX8_next S_17 (fun S_18 => wX8_readType_272 S_18 t k')))) ∧ (¬ D1 12 x_12 = x_6 → wX8_readNest_69 D1 (fun S_6 => wX8_readType_272 S_6 t k'))))))) ∧ (x_6 = t → wX8_readNest_36 D1 (fun S_6 => wX8_readType_272 S_6 t k'))))) ∧ (x_3 = 0 → wX8_odd D1 (fun S_19 => wX8_readType_272 S_19 t k'))) → wX8_readType_253 D t f k' := by
    intro k' hk
    unfold wX8_readType_253
    refine ⟨fun z => by omega, fun _ => R_isS R t1.2.1 (x := 204) (by unfold srtOK; omega) (by decide) (fun w => ⟨fun z => absurd z (by decide), fun _ => ?_⟩) (fun w => absurd si w)⟩
    unfold wX8_readNest wX8_readNest_0
    exact n1 _ hk
  have fo : ∀ S' D' f', 1 ≤ f' → FLc S1 S' f' (pl (i + 1)) → FLr D1 D' f' (pl (i + 1)) → FO S D b h S' D' := fun S' D' f' f1 g g' => FO_mk hb f1 (offFam_Ad hb a1) (offH_N o1) g g'
  rw [C1.2.2.2.2.2.2.1, C1.2.2.2.2.2.2.2]
  refine ⟨fun s2 => ?_, fun s2 => ?_⟩
  · have d7 := r1.2.2.2.2.2.2.1 (Or.inl s2)
    have run2 : ∀ k' : St → Prop, wX8_seenType D1 (va (i + 1)) t (fun x_6 => (x_6 < 0 → wX8_readNest_36 D1 (fun S_6 => wX8_readType_272 S_6 t k')) ∧ (0 ≤ x_6 → (¬ x_6 = t → wX8_isSamePackage D1 x_6 t (fun x_9 => (x_9 = 0 → wX8_readNest_69 D1 (fun S_6 => wX8_readType_272 S_6 t k')) ∧ (¬ x_9 = 0 → wX8_t D1 x_6 (fun x_12 => (0 ≤ x_12 ∧ x_12 < 48) ∧ ((D1 12 x_12 = x_6 → wX8_t D1 t (fun x_16 => (0 ≤ x_16 ∧ x_16 < 48) ∧ (∀ S_17 : St, S_17 = up D1 12 x_16 x_6 → wX8_next S_17 (fun S_18 => wX8_readType_272 S_18 t k')))) ∧ (¬ D1 12 x_12 = x_6 → wX8_readNest_69 D1 (fun S_6 => wX8_readType_272 S_6 t k'))))))) ∧ (x_6 = t → wX8_readNest_36 D1 (fun S_6 => wX8_readType_272 S_6 t k')))) → wX8_readType_253 D t f k' := by
      intro k' hk
      refine run1 k' (R_isS r1 t2.2.1 (x := 2) (by unfold srtOK; omega) (by decide) (fun w => ⟨fun _ => ?_, fun z => absurd z (by decide)⟩) (fun w => absurd s2 w))
      rw [d7]
      exact hk
    refine C_osn hb ht H1 (fun r g => ⟨fun _ x16 ex16 => ?_, fun z => ?_⟩) (fun g => ⟨fun z => absurd rfl z, fun _ => ?_⟩)
    · have rt : 0 ≤ r ∧ r < t := by have := g.1.1; have := g.2; clear h0 h1 none run1 run2; omega
      have r24 : 0 ≤ r ∧ r < 24 := by omega
      have b4 : ¬ (sam D1 h r t ∧ D1 12 (24 * h + r) = r) → wX4_readNest_93 S1 k := by
        intro ng
        obtain ⟨R2, f2, n2⟩ := R_fl (S := D1) (f := 4) (p := pl (i + 1)) r1.2.2.2.2.2.2.2
        unfold wX4_readNest_93
        refine C_fl N4 C1 (fun S2 g2 => ⟨Or.inl rfl, h0 S2 R2 (fo _ _ _ (by decide) g2 f2) (fun k' hk => run2 k' (R_osn hh ht H1.1.1.2.1 H1.1.2.2 (fun r' g' => ?_) (fun g' => absurd g (g' r))))⟩)
        have bad : wX8_readNest_69 D1 (fun S_6 => wX8_readType_272 S_6 t k') := by
          unfold wX8_readNest_69
          rw [r1.2.2.2.2.2.1]
          exact n2 _ (R_272_no (by rw [f2.1]; decide) hk)
        rw [seT_one H1.1.2.2 g'.1 g.1]
        refine R_sam (D := D1) (fun _ _ _ _ => rfl) H1.1.1.2.1 hh r24 ht (fun sm => ⟨fun z => absurd z (by decide), fun _ => ?_⟩) (fun _ => ⟨fun _ => bad, fun z => absurd rfl z⟩)
        unfold wX8_t wX8_t_0
        rw [H1.1.1.2.1, w32_eq (x := 24 * h) (by omega) (by omega), w32_eq (x := 24 * h + r) (by omega) (by omega)]
        exact ⟨by omega, fun z => absurd ⟨sm, z⟩ ng, fun _ => bad⟩
      rw [H1.1.1.1] at ex16
      rw [ex16]
      refine ⟨ib, fun x17 ex17 => ?_⟩
      rw [H1.1.1.2.2.2.2] at ex17
      rw [ex17, H1.2.2.1.1]
      refine ⟨it, C_samePackage (E := S1) (D := D1) (h := h) (fun _ _ _ _ => rfl) r24 ht (H1.1.2.1 r rt.1 rt.2).1 H1.2.2.1 (fun sm => ⟨fun z => absurd z (by decide), fun _ x21 ex21 => ?_⟩) (fun ns => ⟨fun _ => b4 (fun w => ns w.1), fun z => absurd rfl z⟩)⟩
      rw [H1.1.1.1] at ex21
      rw [ex21]
      refine ⟨ib, r24, fun x23 ex23 => ?_⟩
      have ex23 : x23 = ty b r := ex23
      rw [ex23, (H1.1.2.1 r rt.1 rt.2).1.2.2.2.2.2.1]
      refine ⟨fun en x26 ex26 => ?_, fun nn => b4 (fun w => nn w.2)⟩
      rw [H1.1.1.2.2.2.2] at ex26
      rw [ex26]
      refine ⟨it, fun S2 e2 => ?_⟩
      have C2 : CTk N so va pl S2 (i + 1) := C1.off (fun a j g => by rw [e2, up_n _ (by unfold ty; omega)])
      obtain ⟨D2, e2'⟩ : ∃ D2, D2 = up D1 12 (24 * h + t) r := ⟨_, rfl⟩
      have r2 : RTk T n te so va pl D2 (i + 1) := r1.off (fun a j g => by rw [e2', up_n _ (by omega)])
      obtain ⟨D3, ⟨r3, o3⟩, n3⟩ := R_nx K C2.1 r2 (by omega)
      refine C_adv K C2 (by omega) (fun S3 a3 C3 => ?_)
      obtain ⟨H3, c3, f3⟩ := Hd_nest (S' := S3) (D' := D3) (r := r) hb ht H1 (fun x j g1 g2 => by rw [a3 x j g1, e2, up_n _ (by omega)]) (fun x j g1 g2 => by rw [o3 x j g1, e2', up_n _ (by omega)]) (by rw [a3 _ _ (by unfold ty; omega), e2, up_s]) (by rw [o3 _ _ (by omega), e2', up_s])
      refine h1 S3 D3 (i + 1 + 1) (by omega) C3 r3 ((fCt_Ad a1).tr c3) ((fRt_N o1).tr f3) H3 ?_ (fun k' hk => run2 k' (R_osn hh ht H1.1.1.2.1 H1.1.2.2 (fun r' g' => ?_) (fun g' => absurd g (g' r))))
      · rw [o3 _ _ (by omega), e2', up_n _ (by omega), o1 _ _ (by omega)]
      · rw [seT_one H1.1.2.2 g'.1 g.1]
        refine R_sam (D := D1) (fun _ _ _ _ => rfl) H1.1.1.2.1 hh r24 ht (fun sm => ⟨fun z => absurd z (by decide), fun _ => ?_⟩) (fun ns => absurd sm ns)
        unfold wX8_t wX8_t_0
        rw [H1.1.1.2.1, w32_eq (x := 24 * h) (by omega) (by omega), w32_eq (x := 24 * h + r) (by omega) (by omega), w32_eq (x := 24 * h + t) (by omega) (by omega)]
        refine ⟨by omega, fun _ => ⟨by omega, fun A ea => ?_⟩, fun z => absurd en z⟩
        rw [ea, ← e2']
        exact n3 _ hk
    · have := g.1.1.1; clear h0 h1 none run1 run2; omega
    · obtain ⟨R2, f2, n2⟩ := R_fl (S := D1) (f := 3) (p := pl (i + 1)) r1.2.2.2.2.2.2.2
      refine C_fl N4 C1 (fun S2 g2 => ⟨Or.inl rfl, h0 S2 R2 (fo _ _ _ (by decide) g2 f2) (fun k' hk => run2 k' (R_osn hh ht H1.1.1.2.1 H1.1.2.2 (fun r' g' => absurd g' (g r')) (fun g' => ?_)))⟩)
      unfold wX8_readNest_36
      rw [r1.2.2.2.2.2.1]
      exact n2 _ (R_272_no (by rw [f2.1]; decide) hk)
  · obtain ⟨R2, f2, n2⟩ := R_od r1 t2.2.1
    refine C_misf N4 C1 (fun S2 g2 => ⟨Or.inl rfl, h0 S2 R2 (fo _ _ _ (msf_pos _) g2 f2) (fun k' hk => run1 k' (R_isS r1 t2.2.1 (x := 2) (by unfold srtOK; omega) (by decide) (fun w => absurd w s2) (fun w => ⟨fun z => absurd rfl z, fun _ => n2 _ (R_272_no ?_ hk)⟩)))⟩)
    rw [f2.1]
    have := msf_pos (so (i + 1))
    omega
theorem J_readHead {k : Int → St → Prop} (hb : b = 2 ∨ b = 515) (hh : half01 h) (ht : 0 ≤ t ∧ t < 24) (K : Tks T n N te so va pl) (C : CTk N so va pl S i) (R : RTk T n te so va pl D i) (H : Hd S b D h t) (z16 : D 16 (24 * h + t) = 0) (z13 : D 13 (24 * h + t) = 0) (ef : D 11 (24 * h + t) = f)
    (h1 : ∀ S' D' j s, i < j → CTk N so va pl S' j → RTk T n te so va pl D' j → fCt S S' b t → fRt D D' h t → Hd S' b D' h t → D' 16 (24 * h + t) = 0 → S' 1032 11 = s → (s = 2 ∧ (∀ k' : St → Prop, RKr D' h t k' → RKn D t f k')) ∨ (s = 3 ∧ (∀ k' : St → Prop, wX8_readType_292 D' t k' → RKn D t f k')) → k 1 S')
    (h0 : ∀ S' D', FO S D b h S' D' → (∀ k' : St → Prop, k' D' → RKn D t f k') → k 0 S') : wX4_readHead S k := by
  have N4 := K.1.2
  have h01 : 0 ≤ h ∧ h ≤ 1 := by unfold half01 at hh; omega
  unfold wX4_readHead wX4_readHead_0
  refine J_readVars hb hh ht K C R H z16 z13 (f := f) (fun S1 D1 j1 ij1 C1 r1 c1 f1 H1 z1 run1 => ⟨fun z => absurd z (by decide), fun _ => ?_⟩) (fun S1 D1 fo run1 => ⟨fun _ => h0 S1 D1 fo run1, fun z => absurd rfl z⟩)
  have ef1 : D1 11 (24 * h + t) = f := by rw [f1 _ _ (by unfold inTy; omega)]; exact ef
  refine J_readNest hb hh ht K C1 r1 H1 ef1 (fun S2 D2 j2 ij2 C2 r2 c2 f2 H2 z2 run2 => ⟨fun _ => ?_, fun z => absurd z (by decide)⟩) (fun S2 D2 fo run2 => ⟨fun z => absurd rfl z, fun _ => h0 S2 D2 (FO_tr hb ht c1 f1 fo) (fun k' hk => run1 k' (run2 k' hk))⟩)
  have t2 := K.2.2.1 j2 C2.1.1 C2.1.2
  have cc := c1.tr c2
  have ff := f1.tr f2
  have z2' : D2 16 (24 * h + t) = 0 := z2.trans z1
  rw [C2.2.2.2.2.2.2.1]
  refine ⟨fun s58 => ?_, fun s58 => ?_⟩
  · unfold wX4_readHead_31
    intro S3 e3
    have C3 : CTk N so va pl S3 j2 := C2.off (fun a j g => by rw [e3, up_n _ (by omega)])
    rw [C3.2.2.2.2.2.2.1]
    refine ⟨fun _ => ?_, fun z => absurd z s58⟩
    have c3 : fCt S2 S3 b t := fun a j g _ _ => by rw [e3, up_n _ (by omega)]
    unfold wX4_readHead_51
    have run : ∀ k' : St → Prop, wX8_readType_286 D2 t k' → RKn D t f k' := fun k' hk => run1 k' (run2 k' (by
      unfold wX8_readType_272
      exact R_isS r2 t2.2.1 (x := 58) (by unfold srtOK; omega) (by decide) (fun w => absurd w s58) (fun w => ⟨fun _ => hk, fun z => absurd rfl z⟩)))
    refine J_take K C3 r2 (x := 123) (y := 123) (by unfold srtOK; omega) (by decide) (by decide) (fun _ S7 D7 a7 C7 o7 r7 n7 => ⟨Or.inr rfl, ?_⟩) (fun S7 D7 g7 f7 n7 => ⟨Or.inl rfl, ?_⟩)
    · refine h1 S7 D7 (j2 + 1) 3 (by omega) C7 r7 ((cc.tr c3).tr (fCt_Ad a7)) (ff.tr (fRt_N o7)) (Hd_adv hb ht H2 (fun x j g => by rw [a7 x j (by omega), e3, up_n _ (by omega)]) o7) (by rw [o7 _ _ (by omega)]; exact z2') (by rw [a7 _ _ (by omega), e3, up_s]) (Or.inr ⟨rfl, fun k' hk => run k' ?_⟩)
      unfold wX8_readType_286
      exact n7 _ hk
    · have fo : FO S D b h S7 D7 := FO_mk hb (msf_pos _) (offFam_t hb ht (cc.tr c3)) (offH_t ht ff) g7 f7
      refine h0 S7 D7 fo (fun k' hk => run k' ?_)
      unfold wX8_readType_286
      exact n7 _ (R_292_no (FO_met fo) hk)
  · unfold wX4_readHead_31
    intro S3 e3
    have C3 : CTk N so va pl S3 j2 := C2.off (fun a j g => by rw [e3, up_n _ (by omega)])
    rw [C3.2.2.2.2.2.2.1]
    refine ⟨fun z => absurd s58 z, fun _ => ?_⟩
    have c3 : fCt S2 S3 b t := fun a j g _ _ => by rw [e3, up_n _ (by omega)]
    unfold wX4_readHead_51
    obtain ⟨D3, ⟨r3, o3⟩, n3⟩ := R_nx K C3.1 r2 (by omega)
    unfold wX4_take wX4_take_0
    rw [C3.2.2.2.2.2.2.1]
    refine ⟨fun _ => C_adv K C3 (by omega) (fun S7 a7 C7 => ⟨Or.inr rfl, ?_⟩), fun z => absurd s58 z⟩
    refine h1 S7 D3 (j2 + 1) 2 (by omega) C7 r3 ((cc.tr c3).tr (fCt_Ad a7)) (ff.tr (fRt_N o3)) (Hd_adv hb ht H2 (fun x j g => by rw [a7 x j (by omega), e3, up_n _ (by omega)]) o3) (by rw [o3 _ _ (by omega)]; exact z2') (by rw [a7 _ _ (by omega), e3, up_s]) (Or.inl ⟨rfl, fun k' hk => run1 k' (run2 k' ?_)⟩)
    unfold wX8_readType_272
    refine R_isS r2 t2.2.1 (x := 58) (by unfold srtOK; omega) (by decide) (fun w => ⟨fun z => absurd z (by decide), fun _ => ?_⟩) (fun w => absurd s58 w)
    unfold wX8_readRefs wX8_readRefs_0 wX8_t wX8_t_0
    rw [H2.1.1.2.1, w32_eq (x := 24 * h) (by omega) (by omega), w32_eq (x := 24 * h + t) (by omega) (by omega)]
    exact n3 _ hk
end Nest
