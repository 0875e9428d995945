/-! pure: the class's docket: METHODS, faces, LOOKUP, MAY -/
theorem wlp_dn {α : Type} {B : (Int × α → Prop) → Int × α → Prop} (n : Nat) (I : Nat → α → Prop) (hs : ∀ (P : Int × α → Prop) (i : Nat) (s : α), i < n → I (i + 1) s → (∀ s', I i s' → P ((i : Int) - 1, s')) → B P ((i : Int), s)) (he : ∀ (P : Int × α → Prop) (s : α), I 0 s → B P (-1, s)) {s : α} (h0 : I n s) : wlp B ((n : Int) - 1, s) := by
  refine wlp_of (fun a => ∃ i : Nat, i ≤ n ∧ a.1 = (i : Int) - 1 ∧ I i a.2) (fun a => (a.1 + 1).toNat) ?_ ⟨n, Nat.le_refl _, rfl, h0⟩
  intro P a ⟨i, hi, ha, hI⟩ hP
  obtain ⟨x, s⟩ := a
  dsimp only at ha hI hP
  subst ha
  cases i with
  | zero => exact he P s hI
  | succ i =>
    have e : ((i + 1 : Nat) : Int) - 1 = (i : Int) := by omega
    rw [e] at hP ⊢
    refine hs P i s (by omega) hI (fun s' hI' => hP ((i : Int) - 1, s') ⟨i, by omega, rfl, hI'⟩ ?_)
    dsimp only
    omega
/-- a docket over the family at b, which is the court D h -/
def CQ (S E : St) (b : Int) (D : St) (h : Int) : Prop := AgC S E b ∧ S 1037 0 = b ∧ (b = 2 ∨ b = 515) ∧ half01 h ∧ Rel E b D h ∧ okA D h
theorem isO_b {b : Int} (h : b = 2 ∨ b = 515) : isO 2 b := by
  rcases h with rfl | rfl
  · exact ⟨by decide, by decide, by decide⟩
  · exact ⟨by decide, by decide, by decide⟩
def offD (S S' : St) : Prop := ∀ a j, a < 1037 ∨ (a = 1037 ∧ (j = 0 ∨ j = 7)) → S' a j = S a j
theorem offD.refl (S : St) : offD S S := fun _ _ _ => rfl
theorem offD.trans {S S1 S2 : St} (h : offD S S1) (g : offD S1 S2) : offD S S2 := fun a j x => (g a j x).trans (h a j x)
theorem offD.up {S S1 : St} {c j v : Int} (h : offD S S1) (hc : 1037 < c ∨ (c = 1037 ∧ ¬ j = 0 ∧ ¬ j = 7)) : offD S (up S1 c j v) := fun a i x => by rw [up_n S1 (by omega)]; exact h a i x
theorem CQ.off {S S1 E D : St} {b h : Int} (Q : CQ S E b D h) (o : offD S S1) : CQ S1 E b D h := by
  obtain ⟨q1, q2, q3, q4⟩ := Q
  refine ⟨fun a j x y => (o a j (by omega)).trans (q1 a j x y), (o 1037 0 (by omega)).trans q2, q3, q4⟩
def okY (D : St) (h x : Int) : Prop := okX D h x ∧ mem D h x < D 4 h ∧ sby D h x < D 4 h ∧ (1000 ≤ x → x - 1000 < D 5 h ∧ ¬ D 31 (120 * h + mem D h x) = 1 ∧ ¬ D 31 (120 * h + mem D h x) = 2)
theorem mI_okY {D : St} {h t q : Int} (O : okA D h) (ht : 0 ≤ t ∧ t < D 3 h) (g : 0 ≤ mI D h t q) : okY D h (mI D h t q) := by
  obtain ⟨W, n0, m0, b0, oM, oZ⟩ := O
  have hTU := W.1.2 t ht.1 ht.2
  have hX := mI_okX hTU.1 hTU.2 g
  obtain ⟨z1, z2, z3⟩ := oZ t ht.1 ht.2
  obtain ⟨a1, a2, a3, a4⟩ := mI_rng W ht g
  have hF := hTU.1.2.1
  have hB := hTU.1.2.2.1
  rcases mI_spec D h t q with ⟨a, b, c, d⟩ | ⟨a, ⟨b, c, d, e⟩ | ⟨b, c⟩⟩
  · have e1 : mI D h t q < 1000 := by omega
    refine ⟨hX, ?_, ?_, fun z => by omega⟩
    · unfold mem; rw [if_pos e1]; omega
    · unfold sby; rw [if_pos e1]; omega
  · have e1 : ¬ mI D h t q < 1000 := by omega
    obtain ⟨w1, w2, w3, w4, w5, w6, w7, w8⟩ := a4 (by omega)
    refine ⟨hX, by omega, ?_, fun _ => ⟨by omega, w6, w7⟩⟩
    unfold sby; rw [if_neg e1]; exact z3 _ b c
  · omega
section Docket
variable {S E D : St} {b h : Int}
theorem C_memberOf {x : Int} {k : Int → Prop} (Q : CQ S E b D h) (hx : okY D h x) (hk : k (me b (mem D h x))) : wX1_memberOf S x k := by
  obtain ⟨q1, q2, q3, q4, R, O⟩ := Q
  obtain ⟨x1, x2, x3, x4⟩ := hx
  have hm := (okX_mem x1).1
  unfold wX1_memberOf wX1_memberOf_0
  intro y ey
  rw [q2] at ey
  subst ey
  refine ⟨isO_b q3, fun c z ez => ?_, fun c => ?_⟩
  · rw [q2] at ez
    subst ez
    have hb := O.2.2.2.1
    have hx5 := (x4 c).1
    rw [w32_eq (by omega) (by omega)]
    have e4 : S (z + 4) (x - 1000) = mem D h x := by
      have hB := R.2.2.2.2.1 (x - 1000) (by omega) hx5
      rw [q1 _ _ (by omega) (by omega), hB.1]
      unfold mem
      rw [if_neg (by omega)]
    rw [e4]
    refine ⟨isO_b q3, by omega, by omega, fun w ew => ?_⟩
    rw [ew]; exact hk
  · have e : mem D h x = x := by unfold mem; rw [if_pos c]
    rw [e] at hk hm
    refine ⟨by omega, fun w ew => ?_⟩
    rw [ew]; exact hk
theorem CQ.m {m j : Int} (Q : CQ S E b D h) (hm : 0 ≤ m ∧ m < 120) : S (me b m) j = E (me b m) j := Q.1 _ _ (by unfold me; omega) (by unfold me; omega)
theorem CQ.t {t j : Int} (Q : CQ S E b D h) (ht : 0 ≤ t ∧ t < 24) : S (ty b t) j = E (ty b t) j := Q.1 _ _ (by unfold ty; omega) (by unfold ty; omega)
theorem CQ.n24 (Q : CQ S E b D h) : D 3 h ≤ 24 := Q.2.2.2.2.2.1.1.1
theorem CQ.rt {t : Int} (Q : CQ S E b D h) (ht : 0 ≤ t ∧ t < D 3 h) : rTy E b D h t := Q.2.2.2.2.1.2.1 t ht.1 ht.2
theorem CQ.rm {m : Int} (Q : CQ S E b D h) (hm : 0 ≤ m ∧ m < D 4 h) : rM E b D h m := Q.2.2.2.2.1.2.2.1 m hm.1 hm.2
theorem okY_shp {x : Int} (hx : okY D h x) : (D 31 (120 * h + mem D h x) = 2 ↔ shp D h x = 2) ∧ (D 31 (120 * h + mem D h x) = 1 ↔ shp D h x = 1) := by
  obtain ⟨x1, x2, x3, x4⟩ := hx
  unfold shp
  by_cases c : x < 1000
  · rw [if_pos c]
    have e : mem D h x = x := by unfold mem; rw [if_pos c]
    rw [e]
    exact ⟨Iff.rfl, Iff.rfl⟩
  · rw [if_neg c]
    have := x4 (by omega)
    exact ⟨⟨fun z => absurd z this.2.2, fun z => absurd z (by decide)⟩, ⟨fun z => absurd z this.2.1, fun z => absurd z (by decide)⟩⟩
theorem C_isAbstract {x : Int} {k : Int → Prop} (Q : CQ S E b D h) (hx : okY D h x) (h1 : shp D h x = 2 → k 1) (h0 : ¬ shp D h x = 2 → k 0) : wX1_isAbstract S x k := by
  unfold wX1_isAbstract wX1_isAbstract_0
  have hm := (okX_mem hx.1).1
  refine C_memberOf Q hx ?_
  rw [Q.m hm, (Q.rm ⟨hm.1, hx.2.1⟩).2.2.2.1, (okY_shp hx).1]
  exact ⟨h0, h1⟩
theorem C_isFree {x : Int} {k : Int → Prop} (Q : CQ S E b D h) (hx : okY D h x) (h1 : plain D h x → k 1) (h0 : ¬ plain D h x → k 0) : wX3_isFree S (me b (mem D h x)) k := by
  unfold wX3_isFree wX3_isFree_0
  have hm := (okX_mem hx.1).1
  have r := Q.rm ⟨hm.1, hx.2.1⟩
  rw [Q.m hm, Q.m hm, r.2.2.1, r.2.2.2.1, (okY_shp hx).2]
  exact ⟨fun c => h0 (fun g => g.2 c), fun c => ⟨fun d => h0 (fun g => g.1 d), fun d => h1 ⟨d, c⟩⟩⟩
theorem C_mI {t q : Int} {k : Int → Prop} (Q : CQ S E b D h) (ht : 0 ≤ t ∧ t < D 3 h) (hq : 0 ≤ q ∧ q < D 4 h) (hk : k (mI D h t q)) : wX2_methodIn S b (ty b t) (E (me b q) 7) k := by
  have O := Q.2.2.2.2.2
  have R := Q.2.2.2.2.1
  have rt := Q.rt ht
  have oZ := O.2.2.2.2.2 t ht.1 ht.2
  exact C_methodIn Q.1 Q.2.2.2.1 (O.1.1.2 t ht.1 ht.2).1 rt.2.2.1 rt.2.2.2.2.2 R.2.2.2.1 R.2.2.2.2.1 (by have := O.2.2.1; omega) oZ.1 oZ.2.1 oZ.2.2 hq hk
theorem C_und {t u : Int} {k : Int → Prop} (Q : CQ S E b D h) (ht : 0 ≤ t ∧ t < D 3 h) (hu : 0 ≤ u ∧ u < D 3 h) (h1 : und D h t u → k 1) (h0 : ¬ und D h t u → k 0) : wX2_isUnder S b t u k := by
  have := Q.n24
  exact C_isUnder Q.1 (by omega) (by omega) (fun _ => (Q.rt ht).2.2.2.1) h1 h0
theorem C_sam {t u : Int} {k : Int → Prop} (Q : CQ S E b D h) (ht : 0 ≤ t ∧ t < D 3 h) (hu : 0 ≤ u ∧ u < D 3 h) (h1 : sam D h t u → k 1) (h0 : ¬ sam D h t u → k 0) : wX2_samePackage S b t u k := by
  have := Q.n24
  exact C_samePackage Q.1 (by omega) (by omega) (Q.rt ht).1 (Q.rt hu).1 h1 h0
theorem C_nst {t u : Int} {k : Int → Prop} (Q : CQ S E b D h) (ht : 0 ≤ t ∧ t < D 3 h) (hu : 0 ≤ u ∧ u < D 3 h) (h1 : nst D h t u → k 1) (h0 : ¬ nst D h t u → k 0) : wX2_sameNest S b t u k := by
  have := Q.n24
  exact C_sameNest Q.1 (by omega) (by omega) (Q.rt ht).1 (Q.rt hu).1 h1 h0
theorem C_face {t : Int} {k : Int → Prop} (Q : CQ S E b D h) (ht : 0 ≤ t ∧ t < D 3 h) (h1 : D 11 (24 * h + t) = 2 → k 1) (h0 : ¬ D 11 (24 * h + t) = 2 → k 0) : wX6_isFace S (ty b t) k := by
  have := Q.n24
  exact C_isFace Q.1 (by omega) (Q.rt ht).1 h1 h0
theorem own_lt {x : Int} (Q : CQ S E b D h) (hx : okY D h x) : 0 ≤ own D h x ∧ own D h x < D 3 h := by
  have hm := (okX_mem hx.1)
  have := Q.2.2.2.2.2.2.2.2.2.1 (mem D h x) hm.1.1 hx.2.1
  exact ⟨hm.2.1.1, this.2.1⟩
/-- the faces' METHODS that the class gathers -/
noncomputable def gfL (D : St) (h t q : Int) : List Int := if D 11 (24 * h + t) = 2 ∧ 0 ≤ mI D h t q then [mI D h t q] else caL D h t q
theorem caN_okY {t q : Int} (Q : CQ S E b D h) (ht : 0 ≤ t ∧ t < D 3 h) (i : Nat) (hi : (i : Int) ≤ D 20 (24 * h + t)) : ∀ x ∈ caN D h t q i, okY D h x := by
  have O := Q.2.2.2.2.2
  induction i with
  | zero => intro x hx; exact absurd hx (List.not_mem_nil)
  | succ i ih =>
    intro x hx
    rcases List.mem_append.mp hx with g | g
    · exact ih (by omega) x g
    · have hU := (O.1.1.2 t ht.1 ht.2).2
      have ha := hU.2.2.1 i (by omega) (by omega)
      by_cases c : D 11 (24 * h + ab D h t i) = 2 ∧ 0 ≤ mI D h (ab D h t i) q ∧ plain D h (mI D h (ab D h t i) q)
      · rw [cnd_pos c.1 c.2.1 c.2.2] at g
        rw [List.mem_singleton.mp g]
        exact mI_okY O (by omega) c.2.1
      · rw [cnd_neg c] at g; exact absurd g (List.not_mem_nil)
theorem gfL_ok {t q : Int} (Q : CQ S E b D h) (ht : 0 ≤ t ∧ t < D 3 h) : (gfL D h t q).length ≤ 24 ∧ ∀ x ∈ gfL D h t q, okY D h x := by
  have O := Q.2.2.2.2.2
  have hU := (O.1.1.2 t ht.1 ht.2).2.2.1
  have := Q.n24
  unfold gfL
  split
  · rename_i c
    refine ⟨by simp, fun x hx => ?_⟩
    rw [List.mem_singleton.mp hx]
    exact mI_okY O ht c.2
  · refine ⟨?_, caN_okY Q ht _ (by omega)⟩
    have := caN_len D h t q (D 20 (24 * h + t)).toNat
    unfold caL
    omega
theorem C_gatherFaces {t q : Int} {k : St → Prop} (Q : CQ S E b D h) (ht : 0 ≤ t ∧ t < D 3 h) (hq : 0 ≤ q ∧ q < D 4 h) (hk : ∀ S', offD S S' → isL S' 1038 (gfL D h t q) → S' 1037 2 = (gfL D h t q).length → k S') : wX1_gatherFaces S t (E (me b q) 7) k := by
  have h24 := Q.n24
  have O := Q.2.2.2.2.2
  have hU := (O.1.1.2 t ht.1 ht.2).2
  have rt := Q.rt ht
  unfold wX1_gatherFaces wX1_gatherFaces_0
  intro y ey
  rw [Q.2.1] at ey
  subst ey
  refine ⟨isO_b Q.2.2.1, by omega, fun z ez T eT => ?_⟩
  have ez : z = ty y t := ez
  subst ez
  have oT : offD S T := by rw [eT]; exact (offD.refl S).up (by omega)
  have QT := Q.off oT
  have T2 : T 1037 2 = 0 := by rw [eT, up_s]
  have rest : ∀ s0 : Int, (D 11 (24 * h + t) = 2 ∧ s0 = mI D h t q) ∨ (¬ D 11 (24 * h + t) = 2 ∧ s0 = -1) → wX1_gatherFaces_35 T (E (me y q) 7) (ty y t) s0 k := by
    intro s0 hs0
    unfold wX1_gatherFaces_35
    have hno : s0 = -1 → ¬ (D 11 (24 * h + t) = 2 ∧ 0 ≤ mI D h t q) := by
      intro e
      rintro ⟨g1, g2⟩
      rcases hs0 with g | g
      · omega
      · exact g.1 g1
    refine ⟨fun c => ?_, fun c T1 e1 T3 e3 => ?_⟩
    · have eL : gfL D h t q = caL D h t q := by unfold gfL; rw [if_neg (hno c)]
      rw [eL] at hk
      obtain ⟨N, hN⟩ : ∃ N : Nat, D 20 (24 * h + t) = N := ⟨(D 20 (24 * h + t)).toNat, by have := hU.2.1; omega⟩
      have eL : caL D h t q = caN D h t q N := by unfold caL; rw [hN]; rfl
      rw [eL] at hk
      have hN24 : N ≤ 23 := by have := hU.2.1; omega
      unfold wX1_gatherFaces_60
      refine wlp_for N (fun i S1 => offD S S1 ∧ isL S1 1038 (caN D h t q i) ∧ S1 1037 2 = (caN D h t q i).length) ?_ ?_ ⟨oT, isL.nil, T2⟩
      · intro P i S1 hi hI hP
        obtain ⟨I1, I2, I3⟩ := hI
        have Q1 := Q.off I1
        have hle := caN_len D h t q i
        show wX1_gatherFaces_60_b S1 (E (me y q) 7) (ty y t) i (fun b0 b1 => P (b0, b1)) k
        unfold wX1_gatherFaces_60_b
        rw [Q1.t (by omega), rt.2.2.2.1.1, hN]
        refine ⟨fun c => by omega, fun _ z ez => ?_⟩
        rw [Q1.2.1] at ez
        subst ez
        have e4 : S1 (ty z t + 4) i = ab D h t i := (Q1.1 _ _ (by unfold ty; omega) (by unfold ty; omega)).trans (rt.2.2.2.1.2.1 i (by omega) (by omega))
        have hf := hU.2.2.1 i (by omega) (by omega)
        obtain ⟨f, ef⟩ : ∃ f, f = ab D h t i := ⟨_, rfl⟩
        rw [e4, ← ef]
        rw [← ef] at hf
        have h0 : cnd D h q f = [] → P ((i : Int) + 1, S1) := by
          intro g
          have eC : caN D h t q (i + 1) = caN D h t q i := by simp only [caN, ← ef, g, List.append_nil]
          exact hP S1 ⟨I1, by rw [eC]; exact I2, by rw [eC]; exact I3⟩
        refine ⟨isO_b Q.2.2.1, by omega, by omega, fun w ew => ?_⟩
        have ew : w = ty z f := ew
        subst ew
        refine C_face Q1 (by omega) (fun c => ⟨fun z => absurd z (by decide), fun _ z2 ez2 => ?_⟩) (fun c => ⟨fun _ => ?_, fun z => absurd rfl z⟩)
        · rw [Q1.2.1] at ez2
          subst ez2
          refine ⟨isO_b Q.2.2.1, C_mI Q1 (by omega) hq ?_⟩
          unfold wX1_gatherFaces_108
          by_cases c2 : 0 ≤ mI D h f q
          · have oY := mI_okY O (by omega) c2
            refine ⟨fun z => by omega, fun _ => C_memberOf Q1 oY (C_isFree Q1 oY (fun g => ⟨fun z => absurd z (by decide), fun _ => ⟨by omega, fun S2 e2 S3 e3 x ex => ?_⟩⟩) (fun g => ⟨fun _ x ex => ?_, fun z => absurd rfl z⟩))⟩
            · rw [ex, w32_eq (by omega) (by omega)]
              have eC : caN D h t q (i + 1) = caN D h t q i ++ [mI D h f q] := by simp only [caN, ← ef, cnd_pos c c2 g]
              have e4 : S2 1037 2 = S1 1037 2 := by rw [e2, up_n _ (by omega)]
              refine hP S3 ⟨?_, ?_, ?_⟩
              · rw [e3, e2]; exact (I1.up (by omega)).up (by omega)
              · rw [e3, eC]
                refine isL.off (S := S2) ?_ (fun j => up_n _ (by omega))
                rw [e2, I3]
                exact I2.snoc
              · rw [e3, up_s, e4, I3, w32_eq (by omega) (by omega), eC]
                simp
            · rw [ex, w32_eq (by omega) (by omega)]
              exact h0 (cnd_neg (fun g2 => g g2.2.2))
          · have e1 : mI D h f q = -1 := by
              rcases mI_spec D h f q with ⟨a, b, c, d⟩ | ⟨a, ⟨b, c, d, e⟩ | ⟨b, c⟩⟩
              · have := (O.1.1.2 f (by omega) (by omega)).1.2.1; omega
              · have := (O.1.1.2 f (by omega) (by omega)).1.2.2.1; omega
              · exact b
            refine ⟨fun _ x ex => ?_, fun z => absurd e1 z⟩
            rw [ex, w32_eq (by omega) (by omega)]
            exact h0 (cnd_neg (fun g => c2 g.2.1))
        · unfold wX1_gatherFaces_108
          refine ⟨fun _ x ex => ?_, fun z => absurd rfl z⟩
          rw [ex, w32_eq (by omega) (by omega)]
          exact h0 (cnd_neg (fun g => c g.1))
      · intro P S1 hI
        obtain ⟨I1, I2, I3⟩ := hI
        have Q1 := Q.off I1
        show wX1_gatherFaces_60_b S1 (E (me y q) 7) (ty y t) N (fun b0 b1 => P (b0, b1)) k
        unfold wX1_gatherFaces_60_b
        rw [Q1.t (by omega), rt.2.2.2.1.1, hN]
        exact ⟨fun _ => hk S1 I1 I2 I3, fun c => by omega⟩
    · have g : D 11 (24 * h + t) = 2 ∧ s0 = mI D h t q := by
        rcases hs0 with g | g
        · exact g
        · exact absurd g.2 c
      have g0 : 0 ≤ mI D h t q := by
        rcases mI_spec D h t q with ⟨a, b, c, d⟩ | ⟨a, ⟨b, c, d, e⟩ | ⟨b, c⟩⟩
        · have := (O.1.1.2 t ht.1 ht.2).1.2.1; omega
        · have := (O.1.1.2 t ht.1 ht.2).1.2.2.1; omega
        · omega
      have eL : gfL D h t q = [mI D h t q] := by unfold gfL; rw [if_pos ⟨g.1, g0⟩]
      rw [eL, ← g.2] at hk
      refine hk T3 ?_ ?_ ?_
      · rw [e3, e1]; exact (oT.up (by omega)).up (by omega)
      · intro i hi
        have : i = 0 := by simp at hi; omega
        subst this
        rw [e3, up_n _ (by omega), e1]
        exact up_s _ _ _ _
      · rw [e3, up_s]; rfl
  refine C_face QT ht (fun c => ⟨fun z => absurd z (by decide), fun _ z2 ez2 => ?_⟩) (fun c => ⟨fun _ => rest (-1) (Or.inr ⟨c, rfl⟩), fun z => absurd rfl z⟩)
  rw [QT.2.1] at ez2
  subst ez2
  exact ⟨isO_b Q.2.2.1, C_mI QT ht hq (rest _ (Or.inl ⟨c, rfl⟩))⟩
theorem C_isSpecific {L : List Int} {i : Nat} {k : Int → Prop} (Q : CQ S E b D h) (hL : isL S 1038 L) (hn : S 1037 2 = L.length) (hl : L.length ≤ 24) (hok : ∀ x ∈ L, okY D h x) (hi : i < L.length) (h1 : isSp D h L i → k 1) (h0 : ¬ isSp D h L i → k 0) : wX1_isSpecific S i k := by
  have h24 := Q.n24
  unfold wX1_isSpecific wX1_isSpecific_0
  have oi := hok _ (getD_mem hi)
  have hoi := own_lt Q oi
  refine ⟨by omega, ?_⟩
  rw [hL i hi]
  refine C_memberOf Q oi (fun x ex => ?_)
  have ex : x = own D h (L.getD i 0) := by
    have hm := (okX_mem oi.1).1
    rw [ex, Q.m hm, (Q.rm ⟨hm.1, oi.2.1⟩).2.1]; rfl
  subst ex
  unfold wX1_isSpecific_16
  refine wlp_for1 L.length (fun j => ∀ j' : Nat, j' < j → j' ≠ i → ¬ und D h (own D h (L.getD j' 0)) (own D h (L.getD i 0))) ?_ ?_ (fun j' hj' => absurd hj' (Nat.not_lt_zero _))
  · intro P j hj hI hP
    show wX1_isSpecific_16_b S i (own D h (L.getD i 0)) j (fun b0 => P b0) k
    unfold wX1_isSpecific_16_b
    rw [hn]
    refine ⟨fun c => by omega, fun _ => ⟨fun e x ex => ?_, fun e y ey => ?_⟩⟩
    · rw [ex, w32_eq (by omega) (by omega)]
      refine hP (fun j' hj' hne => ?_)
      by_cases e2 : j' = j
      · exact absurd (e2.trans (by omega)) hne
      · exact hI j' (by omega) hne
    · rw [Q.2.1] at ey
      subst ey
      have oj := hok _ (getD_mem hj)
      have hoj := own_lt Q oj
      refine ⟨isO_b Q.2.2.1, by omega, ?_⟩
      rw [hL j hj]
      refine C_memberOf Q oj ?_
      have hm := (okX_mem oj.1).1
      have e1 : S (me y (mem D h (L.getD j 0))) 1 = own D h (L.getD j 0) := by
        rw [Q.m hm, (Q.rm ⟨hm.1, oj.2.1⟩).2.1]; rfl
      rw [e1]
      refine C_und Q hoj hoi (fun u => ⟨fun z => absurd z (by decide), fun _ => h0 (fun g => g j hj (fun e2 => e (by rw [e2])) u)⟩) (fun u => ⟨fun _ x ex => ?_, fun z => absurd rfl z⟩)
      rw [ex, w32_eq (by omega) (by omega)]
      refine hP (fun j' hj' hne => ?_)
      by_cases e2 : j' = j
      · subst e2; exact u
      · exact hI j' (by omega) hne
  · intro P hI
    show wX1_isSpecific_16_b S i (own D h (L.getD i 0)) L.length (fun b0 => P b0) k
    unfold wX1_isSpecific_16_b
    rw [hn]
    exact ⟨fun _ => h1 (fun j hj hne => hI j hj hne), fun c => by omega⟩
theorem spN_pre (D : St) (h : Int) (L : List Int) (i d : Nat) : ∃ R, spN D h L (i + d) = spN D h L i ++ R := by
  induction d with
  | zero => exact ⟨[], by simp⟩
  | succ d ih =>
    obtain ⟨R, hR⟩ := ih
    exact ⟨R ++ sp1 D h L (i + d), by rw [← Nat.add_assoc, spN, hR, List.append_assoc]⟩
theorem okY_0 {x : Int} (g : okY D h x) : 0 ≤ x := by
  rcases g.1 with ⟨a, _⟩ | ⟨a, _⟩ <;> omega
theorem C_soleBody {L : List Int} {k : Int → Prop} (Q : CQ S E b D h) (hL : isL S 1038 L) (hn : S 1037 2 = L.length) (hl : L.length ≤ 24) (hok : ∀ x ∈ L, okY D h x) (hk : k (sol D h L)) : wX1_soleBody S k := by
  unfold wX1_soleBody wX1_soleBody_0 wX1_soleBody_5
  refine wlp_f0s L.length (fun i y => ((spN D h L i).filter (nab D h) = [] ∧ y = -4) ∨ ((spN D h L i).filter (nab D h) = [y] ∧ 0 ≤ y)) ?_ ?_ (Or.inl ⟨rfl, rfl⟩)
  · intro P i y hi hI hP
    show wX1_soleBody_5_b S y i (fun b0 b1 => P (b0, b1)) k
    unfold wX1_soleBody_5_b
    have oi := hok _ (getD_mem hi)
    rw [hn, hL i hi]
    have same : (sp1 D h L i).filter (nab D h) = [] → P (y, (i : Int) + 1) := by
      intro e
      have e2 : (spN D h L (i + 1)).filter (nab D h) = (spN D h L i).filter (nab D h) := by rw [spN, List.filter_append, e, List.append_nil]
      exact hP y (by rw [e2]; exact hI)
    refine ⟨fun c => by omega, fun _ => ⟨by omega, C_isAbstract Q oi (fun c => ⟨fun _ x ex => ?_, fun z => absurd z (by decide)⟩) (fun c => ⟨fun z => absurd rfl z, fun _ => C_isSpecific Q hL hn hl hok hi (fun g => ⟨fun z => absurd z (by decide), fun _ => ⟨fun z => ⟨by omega, fun w ew x ex => ?_⟩, fun z => ?_⟩⟩) (fun g => ⟨fun _ x ex => ?_, fun z => absurd rfl z⟩)⟩)⟩⟩
    · rw [ex, w32_eq (by omega) (by omega)]
      refine same ?_
      by_cases g : isSp D h L i
      · rw [sp1_pos g]
        have : nab D h (L.getD i 0) = false := by simp only [nab, c]; decide
        simp only [List.filter_cons, this]
        simp
      · rw [sp1_neg g]; rfl
    · have e1 : (sp1 D h L i).filter (nab D h) = [L.getD i 0] := by
        rw [sp1_pos g]
        have : nab D h (L.getD i 0) = true := by simp only [nab, c]; decide
        simp only [List.filter_cons, this]
        simp
      rw [ex, w32_eq (by omega) (by omega), ew]
      rcases hI with ⟨I1, I2⟩ | ⟨I1, I2⟩
      · refine hP _ (Or.inr ⟨?_, okY_0 oi⟩)
        rw [spN, List.filter_append, e1, I1]; rfl
      · omega
    · have e1 : (sp1 D h L i).filter (nab D h) = [L.getD i 0] := by
        rw [sp1_pos g]
        have : nab D h (L.getD i 0) = true := by simp only [nab, c]; decide
        simp only [List.filter_cons, this]
        simp
      rcases hI with ⟨I1, I2⟩ | ⟨I1, I2⟩
      · exact absurd I2 z
      · obtain ⟨R, hR⟩ := spN_pre D h L (i + 1) (L.length - (i + 1))
        have e3 : i + 1 + (L.length - (i + 1)) = L.length := by omega
        rw [e3] at hR
        have e4 : bdL D h L = y :: L.getD i 0 :: R.filter (nab D h) := by
          unfold bdL
          rw [hR, List.filter_append, spN, List.filter_append, e1, I1]; rfl
        unfold sol at hk
        rw [e4] at hk
        exact hk
    · rw [ex, w32_eq (by omega) (by omega)]
      refine same ?_
      rw [sp1_neg g]; rfl
  · intro P y hI
    show wX1_soleBody_5_b S y L.length (fun b0 b1 => P (b0, b1)) k
    unfold wX1_soleBody_5_b
    rw [hn]
    refine ⟨fun _ => ?_, fun c => by omega⟩
    unfold sol bdL at hk
    rcases hI with ⟨I1, I2⟩ | ⟨I1, I2⟩
    · rw [I1] at hk; rw [I2]; exact hk
    · rw [I1] at hk; exact hk
theorem mI_m1 {t q : Int} (O : okA D h) (ht : 0 ≤ t ∧ t < D 3 h) (g : ¬ 0 ≤ mI D h t q) : mI D h t q = -1 := by
  rcases mI_spec D h t q with ⟨a, b, c, d⟩ | ⟨a, ⟨b, c, d, e⟩ | ⟨b, c⟩⟩
  · have := (O.1.1.2 t ht.1 ht.2).1.2.1; omega
  · have := (O.1.1.2 t ht.1 ht.2).1.2.2.1; omega
  · exact b
def hd1 (L : List Int) : Int := match L with
  | [] => -1
  | c :: _ => c
theorem sol_fcs {L : List Int} (hok : ∀ x ∈ L, okY D h x) : (0 ≤ sol D h L → fcs D h L = sol D h L ∧ ¬ L = []) ∧ (¬ 0 ≤ sol D h L → fcs D h L = hd1 L) := by
  cases L with
  | nil =>
    refine ⟨fun z => ?_, fun _ => rfl⟩
    have : sol D h [] = -4 := rfl
    omega
  | cons c cs =>
    unfold sol fcs
    constructor
    · intro z
      split at z
      · omega
      · rename_i x e
        simp only [e]
        exact ⟨trivial, by simp⟩
      · omega
    · intro z
      show _ = c
      dsimp only
      split at z
      · rename_i e; simp only [e]
      · rename_i x e
        have hx : x ∈ bdL D h (c :: cs) := by rw [e]; exact List.mem_cons_self
        have := okY_0 (hok x (spN_sub D h _ _ (Nat.le_refl _) x (List.mem_filter.mp hx).1))
        omega
      · rename_i e1 e2
        split
        · rename_i x e
          exact absurd e (e2 x)
        · rfl
theorem C_find_80 {t q : Int} {k : Int → St → Prop} (Q : CQ S E b D h) (ht : 0 ≤ t ∧ t < D 3 h) (hq : 0 ≤ q ∧ q < D 4 h) (hno : ¬ D 11 (24 * h + t) = 2 → ¬ 0 ≤ lkC D h q 24 t) (hk : ∀ S', offD S S' → k (fnd D h t q) S') : wX1_find_80 S t (E (me b q) 7) k := by
  have O := Q.2.2.2.2.2
  unfold wX1_find_80
  refine C_gatherFaces Q ht hq (fun S1 o1 l1 l2 => ?_)
  have Q1 := Q.off o1
  obtain ⟨g1, g2⟩ := gfL_ok (q := q) Q ht
  refine C_soleBody Q1 l1 l2 g1 g2 ?_
  have hk1 := hk S1 o1
  have sf := sol_fcs g2
  have key : fnd D h t q = (if 0 ≤ sol D h (gfL D h t q) then sol D h (gfL D h t q) else hd1 (gfL D h t q)) := by
    have e1 : fcs D h (gfL D h t q) = (if 0 ≤ sol D h (gfL D h t q) then sol D h (gfL D h t q) else hd1 (gfL D h t q)) := by
      by_cases z : 0 ≤ sol D h (gfL D h t q)
      · rw [if_pos z]; exact (sf.1 z).1
      · rw [if_neg z]; exact sf.2 z
    rw [← e1]
    unfold fnd
    by_cases f : D 11 (24 * h + t) = 2
    · have hp := (O.1.2 t ht.1 ht.2).2.2.1 f
      have elk : lkC D h q 24 t = if 0 ≤ mI D h t q then mI D h t q else -1 := by
        rw [lkC, if_neg (by omega)]
        split
        · rfl
        · rw [hp, lkC, if_pos (by decide)]
      rw [elk]
      by_cases g : 0 ≤ mI D h t q
      · rw [if_pos g, if_pos g]
        unfold gfL
        rw [if_pos ⟨f, g⟩]
        unfold fcs
        dsimp only
        split
        · rename_i x e
          have hx : x ∈ bdL D h [mI D h t q] := by rw [e]; exact List.mem_cons_self
          exact (List.mem_singleton.mp (spN_sub D h _ _ (Nat.le_refl _) x (List.mem_filter.mp hx).1)).symm
        · rfl
      · rw [if_neg g, if_neg (by decide)]
        unfold gfL
        rw [if_neg (fun z => g z.2)]
    · rw [if_neg (hno f)]
      unfold gfL
      rw [if_neg (fun z => f z.1)]
  rw [key] at hk1
  refine ⟨fun c => ⟨fun d => ?_, fun d => ?_⟩, fun c => ?_⟩
  · rw [if_neg (by omega)] at hk1
    have : gfL D h t q = [] := List.length_eq_zero_iff.mp (by omega)
    rw [this] at hk1
    exact hk1
  · rw [if_neg (by omega)] at hk1
    cases eL : gfL D h t q with
    | nil => rw [eL] at l2; simp at l2; omega
    | cons x xs =>
      have : S1 1038 0 = x := by
        have := l1 0 (by rw [eL]; simp)
        rw [eL] at this
        simpa using this
      rw [this]
      rw [eL] at hk1
      exact hk1
  · rw [if_pos c] at hk1
    exact hk1
theorem C_find {t q : Int} {k : Int → St → Prop} (Q : CQ S E b D h) (ht : 0 ≤ t ∧ t < D 3 h) (hq : 0 ≤ q ∧ q < D 4 h) (hk : ∀ S', offD S S' → k (fnd D h t q) S') : wX1_find S t (E (me b q) 7) k := by
  have O := Q.2.2.2.2.2
  have h24 := Q.n24
  unfold wX1_find wX1_find_0
  intro y ey
  rw [Q.2.1] at ey
  subst ey
  refine ⟨isO_b Q.2.2.1, by omega, fun z ez => ?_⟩
  have ez : z = ty y t := ez
  subst ez
  refine C_face Q ht (fun f => ⟨fun z => absurd z (by decide), fun _ => ?_⟩) (fun f => ⟨fun _ => ?_, fun z => absurd rfl z⟩)
  · unfold wX1_find_24
    refine wlp_exit (fun P => ?_)
    show wX1_find_24_b S t (E (me y q) 7) (-1) 0 (fun b0 b1 => P (b0, b1)) k
    unfold wX1_find_24_b
    exact ⟨fun z => absurd z (by decide), fun _ => ⟨fun _ => C_find_80 Q ht hq (fun z => absurd f z) hk, fun z => absurd rfl z⟩⟩
  · unfold wX1_find_24
    refine wlp_of (fun a : Int × Int => ∃ N : Nat, N ≤ 24 ∧ a.2 = 24 - (N : Int) ∧ (a.1 = -1 ∨ (0 ≤ a.1 ∧ a.1 < D 3 h ∧ a.1 < N)) ∧ lkC D h q 24 t = lkC D h q N a.1) (fun a => (24 - a.2).toNat) ?_ ⟨24, Nat.le_refl _, rfl, Or.inr ⟨ht.1, ht.2, by dsimp only; omega⟩, rfl⟩
    intro P a ⟨N, hN, e2, hc, el⟩ hP
    obtain ⟨c, i⟩ := a
    dsimp only at e2 hc el hP
    subst e2
    show wX1_find_24_b S t (E (me y q) 7) c (24 - (N : Int)) (fun b0 b1 => P (b0, b1)) k
    unfold wX1_find_24_b
    cases N with
    | zero =>
      exact ⟨fun _ => C_find_80 Q ht hq (fun _ => by rw [el, lkC]; decide) hk, fun z => by omega⟩
    | succ N =>
      refine ⟨fun z => by omega, fun _ => ⟨fun z => C_find_80 Q ht hq (fun _ => by rw [el, lkC, if_pos (by omega)]; decide) hk, fun z w ew => ?_⟩⟩
      rw [Q.2.1] at ew
      subst ew
      have hc' : 0 ≤ c ∧ c < D 3 h := by omega
      refine ⟨isO_b Q.2.2.1, by omega, fun v ev w2 ew2 => ?_⟩
      have ev : v = ty w c := ev
      subst ev
      rw [Q.2.1] at ew2
      subst ew2
      refine ⟨isO_b Q.2.2.1, C_mI Q hc' hq ?_⟩
      have el2 : lkC D h q (N + 1) c = if c < 0 then -1 else if 0 ≤ mI D h c q then mI D h c q else lkC D h q N (D 19 (24 * h + c)) := by rw [lkC]
      rw [el2, if_neg (by omega)] at el
      by_cases g : 0 ≤ mI D h c q
      · rw [if_pos g] at el
        refine ⟨fun z => by omega, fun _ => ?_⟩
        have : fnd D h t q = mI D h c q := by unfold fnd; rw [el, if_pos g]
        rw [← this]
        exact hk S (offD.refl S)
      · rw [if_neg g] at el
        refine ⟨fun _ x ex u eu => ?_, fun z => absurd (mI_m1 O hc' g) z⟩
        have hU := (O.1.1.2 c hc'.1 hc'.2).2.1
        rw [Q.t (by omega), (Q.rt hc').2.1.2.2] at ex
        rw [w32_eq (by omega) (by omega)] at eu
        refine hP (x, u) ⟨N, by omega, by dsimp only; omega, ?_, ?_⟩ (by dsimp only; omega)
        · dsimp only
          rw [ex]
          split <;> omega
        · dsimp only
          rw [el, ex]
          split
          · rename_i e
            rw [e]
            cases N with
            | zero => rfl
            | succ N => rw [lkC, if_pos (by decide), lkC, if_pos (by decide)]
          · rfl
/-- the i-th SPECIFIC one -/
noncomputable def spA (D : St) (h : Int) (L : List Int) (i : Int) : Int := if 0 ≤ i ∧ i < (spN D h L L.length).length then (spN D h L L.length).getD i.toNat 0 else -1
theorem C_specificAt {t q i : Int} {k : Int → St → Prop} (Q : CQ S E b D h) (ht : 0 ≤ t ∧ t < D 3 h) (hq : 0 ≤ q ∧ q < D 4 h) (hk : ∀ S', offD S S' → k (spA D h (gfL D h t q) i) S') : wX1_specificAt S t (E (me b q) 7) i k := by
  unfold wX1_specificAt wX1_specificAt_0
  refine C_gatherFaces Q ht hq (fun S1 o1 l1 l2 => ?_)
  have Q1 := Q.off o1
  obtain ⟨g1, g2⟩ := gfL_ok (q := q) Q ht
  have hk1 := hk S1 o1
  obtain ⟨L, eL⟩ : ∃ L, L = gfL D h t q := ⟨_, rfl⟩
  rw [← eL] at l1 l2 g1 g2 hk1
  unfold wX1_specificAt_12
  refine wlp_f0s L.length (fun (j : Nat) (y : Int) => y = ((spN D h L j).length : Int) ∧ ¬ (0 ≤ i ∧ i < y)) ?_ ?_ ⟨rfl, fun z => by have : (spN D h L 0).length = 0 := rfl; omega⟩
  · intro P j y hj hI hP
    obtain ⟨I1, I2⟩ := hI
    have hle := spN_len D h L j
    show wX1_specificAt_12_b S1 i y j (fun b0 b1 => P (b0, b1)) k
    unfold wX1_specificAt_12_b
    rw [l2]
    refine ⟨fun c => by omega, fun _ => C_isSpecific Q1 l1 l2 g1 g2 hj (fun g => ⟨fun z => absurd z (by decide), fun _ => ⟨fun c x ex u eu => ?_, fun c => ⟨by omega, ?_⟩⟩⟩) (fun g => ⟨fun _ x ex => ?_, fun z => absurd rfl z⟩)⟩
    · rw [ex, eu, w32_eq (by omega) (by omega), w32_eq (by omega) (by omega)]
      refine hP (y + 1) ⟨?_, by omega⟩
      rw [spN, sp1_pos g]; simp; omega
    · rw [l1 j hj]
      obtain ⟨R, hR⟩ := spN_pre D h L (j + 1) (L.length - (j + 1))
      have e3 : j + 1 + (L.length - (j + 1)) = L.length := by omega
      rw [e3, spN, sp1_pos g] at hR
      unfold spA at hk1
      have e5 : i.toNat = (spN D h L j).length := by omega
      rw [hR, e5] at hk1
      rw [if_pos ⟨by omega, by simp; omega⟩] at hk1
      simpa using hk1
    · rw [ex, w32_eq (by omega) (by omega)]
      refine hP y ⟨?_, I2⟩
      rw [spN, sp1_neg g, List.append_nil]; exact I1
  · intro P y hI
    obtain ⟨I1, I2⟩ := hI
    show wX1_specificAt_12_b S1 i y L.length (fun b0 b1 => P (b0, b1)) k
    unfold wX1_specificAt_12_b
    rw [l2]
    refine ⟨fun _ => ?_, fun c => by omega⟩
    unfold spA at hk1
    rw [if_neg (by omega)] at hk1
    exact hk1
theorem C_isNear {c n x r : Int} {k : Int → Prop} (Q : CQ S E b D h) (hc : 0 ≤ c ∧ c < D 3 h) (hn : 0 ≤ n ∧ n < D 3 h) (hr : 0 ≤ r ∧ r < D 3 h) (hx : okY D h x) (h1 : und D h c (own D h x) ∧ (shp D h x = 1 ∨ ((und D h n c ∨ und D h c n) ∧ und D h r c)) → k 1) (h0 : ¬ (und D h c (own D h x) ∧ (shp D h x = 1 ∨ ((und D h n c ∨ und D h c n) ∧ und D h r c))) → k 0) : wX1_isNear S c n (me b (mem D h x)) r k := by
  have hm := (okX_mem hx.1).1
  have rm := Q.rm ⟨hm.1, hx.2.1⟩
  unfold wX1_isNear wX1_isNear_0 wX1_isNear_41 wX1_isNear_46
  have ho : S (me b (mem D h x)) 1 = own D h x := by rw [Q.m hm, rm.2.1]; rfl
  have e3 : S (me b (mem D h x)) 3 = D 31 (120 * h + mem D h x) := by rw [Q.m hm, rm.2.2.2.1]
  intro y ey
  rw [Q.2.1] at ey
  subst ey
  rw [ho]
  have stp : ∀ s0 : Int, und D h c (own D h x) → ((s0 = 1 ∧ (und D h n c ∨ und D h c n)) ∨ (s0 = 0 ∧ ¬ (und D h n c ∨ und D h c n))) → wX3_isStatic S (me y (mem D h x)) (fun x_1 => (¬ x_1 = 0 → k 1) ∧ (x_1 = 0 → (s0 = 0 → k 0) ∧ (¬ s0 = 0 → ∀ x_6 : Int, x_6 = S 1037 0 → isO 2 x_6 ∧ (wX2_isUnder S x_6 r c (fun x_7 => (x_7 = 0 → k 0) ∧ (¬ x_7 = 0 → k 1)))))) := by
    intro s0 u hs0
    unfold wX3_isStatic wX3_isStatic_0
    rw [e3, (okY_shp hx).2]
    refine ⟨fun z => ⟨fun z2 => absurd rfl z2, fun _ => ⟨fun z2 => h0 ?_, fun z2 w ew => ?_⟩⟩, fun z => ⟨fun _ => h1 ⟨u, Or.inl z⟩, fun z2 => absurd z2 (by decide)⟩⟩
    · rintro ⟨_, g | g⟩
      · exact z g
      · rcases hs0 with a | a
        · omega
        · exact a.2 g.1
    · rw [Q.2.1] at ew
      subst ew
      have a : und D h n c ∨ und D h c n := by
        rcases hs0 with a | a
        · exact a.2
        · exact absurd a.1 z2
      refine ⟨isO_b Q.2.2.1, C_und Q hr hc (fun v => ⟨fun z => absurd z (by decide), fun _ => h1 ⟨u, Or.inr ⟨a, v⟩⟩⟩) (fun v => ⟨fun _ => h0 ?_, fun z => absurd rfl z⟩)⟩
      rintro ⟨_, g | g⟩
      · exact z g
      · exact v g.2
  refine ⟨isO_b Q.2.2.1, C_und Q hc (own_lt Q hx) (fun u => ⟨fun _ w ew => ?_, fun z => absurd z (by decide)⟩) (fun u => ⟨fun z => absurd rfl z, fun _ => h0 (fun g => u g.1)⟩)⟩
  rw [Q.2.1] at ew
  subst ew
  refine ⟨isO_b Q.2.2.1, C_und Q hn hc (fun v => ⟨fun _ => stp 1 u (Or.inl ⟨rfl, Or.inl v⟩), fun z => absurd z (by decide)⟩) (fun v => ⟨fun z => absurd rfl z, fun _ w2 ew2 => ?_⟩)⟩
  rw [Q.2.1] at ew2
  subst ew2
  exact ⟨isO_b Q.2.2.1, C_und Q hc hn (fun v2 => ⟨fun z => absurd z (by decide), fun _ => stp 1 u (Or.inl ⟨rfl, Or.inr v2⟩)⟩) (fun v2 => ⟨fun _ => stp 0 u (Or.inr ⟨rfl, fun g => g.elim v v2⟩), fun z => absurd rfl z⟩)⟩
theorem C_isGranted {c n x r : Int} {k : Int → Prop} (Q : CQ S E b D h) (hc : 0 ≤ c ∧ c < D 3 h) (hn : 0 ≤ n ∧ n < D 3 h) (hr : 0 ≤ r ∧ r < D 3 h) (hx : okY D h x) (h1 : may D h c n x r → k 1) (h0 : ¬ may D h c n x r → k 0) : wX1_isGranted S c n x r k := by
  have hm := (okX_mem hx.1).1
  have rm := Q.rm ⟨hm.1, hx.2.1⟩
  have ho : S (me b (mem D h x)) 1 = own D h x := by rw [Q.m hm, rm.2.1]; rfl
  have e2 : S (me b (mem D h x)) 2 = acc D h x := by rw [Q.m hm, rm.2.2.1]; rfl
  have hl := own_lt Q hx
  unfold wX1_isGranted wX1_isGranted_0
  refine C_memberOf Q hx ?_
  rw [ho, e2]
  have far : ¬ acc D h x = 0 → ¬ acc D h x = 1 → ¬ acc D h x = 3 → ∀ y : Int, y = S 1037 0 → isO 2 y ∧ (wX2_samePackage S y c (own D h x) (fun x_12 => (¬ x_12 = 0 → k 1) ∧ (x_12 = 0 → wX1_isNear S c n (me b (mem D h x)) r (fun x_15 => (x_15 = 0 → k 0) ∧ (¬ x_15 = 0 → k 1))))) := by
    intro a0 a1 a3 y ey
    rw [Q.2.1] at ey
    subst ey
    refine ⟨isO_b Q.2.2.1, C_sam Q hc hl (fun s => ⟨fun _ => h1 (Or.inr (Or.inr (Or.inl ⟨a0, s⟩))), fun z => absurd z (by decide)⟩) (fun s => ⟨fun z => absurd rfl z, fun _ => C_isNear Q hc hn hr hx (fun g => ⟨fun z => absurd z (by decide), fun _ => h1 (Or.inr (Or.inr (Or.inr ⟨a0, a1, g.1, g.2⟩)))⟩) (fun g => ⟨fun _ => h0 ?_, fun z => absurd rfl z⟩)⟩)⟩
    rintro (f | f | f | f)
    · exact a3 f
    · exact a0 f.1
    · exact s f.2
    · exact g f.2.2
  refine ⟨fun a0 y ey => ?_, fun a1 y ey => ?_, fun a2 => far (by omega) (by omega) (by omega), fun a3 => h1 (Or.inl a3), fun a4 => far (by omega) (by omega) (by omega)⟩
  · rw [Q.2.1] at ey
    subst ey
    refine ⟨isO_b Q.2.2.1, C_nst Q hc hl (fun s => ⟨Or.inr rfl, h1 (Or.inr (Or.inl ⟨a0, s⟩))⟩) (fun s => ⟨Or.inl rfl, h0 ?_⟩)⟩
    rintro (f | f | f | f)
    · omega
    · exact s f.2
    · exact f.1 a0
    · exact f.1 a0
  · rw [Q.2.1] at ey
    subst ey
    refine ⟨isO_b Q.2.2.1, C_sam Q hc hl (fun s => ⟨Or.inr rfl, h1 (Or.inr (Or.inr (Or.inl ⟨by omega, s⟩)))⟩) (fun s => ⟨Or.inl rfl, h0 ?_⟩)⟩
    rintro (f | f | f | f)
    · omega
    · omega
    · exact s f.2
    · exact f.2.1 a1
end Docket
