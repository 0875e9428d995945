/-! pure: the class's docket: RULE, how many -/
def offJ (S S' : St) : Prop := ∀ a j, a < 1037 ∨ (a = 1037 ∧ j = 0) → S' a j = S a j
theorem offD.j {S S1 : St} (h : offD S S1) : offJ S S1 := fun a j x => h a j (by omega)
theorem offJ.refl (S : St) : offJ S S := fun _ _ _ => rfl
theorem offJ.trans {S S1 S2 : St} (h : offJ S S1) (g : offJ S1 S2) : offJ S S2 := fun a j x => (g a j x).trans (h a j x)
section Judge
variable {S E D : St} {b h : Int}
theorem CQ.offJ {S1 : St} (Q : CQ S E b D h) (o : offJ S S1) : CQ S1 E b D h := by
  obtain ⟨q1, q2, q3, q4⟩ := Q
  refine ⟨fun a j x y => (o a j (by omega)).trans (q1 a j x y), (o 1037 0 (by omega)).trans q2, q3, q4⟩
theorem gdx_okY {x r : Int} (O : okA D h) (g : gdx D h (D 3 h) r x) (hx : 1000 ≤ x) : okY D h x ∧ okY D h (mem D h x) := by
  have hs := gdx_sOK O.1 g hx
  rcases g with g | ⟨t, q, ht, e, g⟩
  · omega
  · have oY : okY D h x := by rw [e]; exact mI_okY O ht (by omega)
    have hm := (okX_mem oY.1)
    have m1 : mem D h (mem D h x) = mem D h x := by
      have := hm.1
      rw [mem, if_pos (show mem D h x < 1000 by omega)]
    have s1 : sby D h (mem D h x) = mem D h x := by
      have := hm.1
      unfold sby
      rw [if_pos (by omega)]
    exact ⟨oY, hs.2.2.1, by rw [m1]; exact oY.2.1, by rw [s1]; exact oY.2.1, fun z => by have := hm.1; omega⟩
theorem C_run {x r : Int} {k : Int → St → Prop} (Q : CQ S E b D h) (hr : 0 ≤ r ∧ r < D 3 h) (hc : ¬ D 11 (24 * h + r) = 2) (h7 : S 1037 7 = 0) (g : gdx D h (D 3 h) r x) (hk : ∀ S', offJ S S' → S' 1037 7 = rnh D h r 8 x → k (rnv D h r 8 x) S') : wX1_runThroughBridges S x r k := by
  have O := Q.2.2.2.2.2
  unfold wX1_runThroughBridges wX1_runThroughBridges_0 wX1_runThroughBridges_5
  refine wlp_of (fun a : Int × Int × St => ∃ N : Nat, N ≤ 8 ∧ a.2.1 = 8 - (N : Int) ∧ offJ S a.2.2 ∧ a.2.2 1037 7 = 8 - (N : Int) ∧ gdx D h (D 3 h) r a.1 ∧ ∀ S', offJ S S' → S' 1037 7 = 8 - (N : Int) + rnh D h r N a.1 → k (rnv D h r N a.1) S') (fun a => (8 - a.2.1).toNat) ?_ ⟨8, Nat.le_refl _, rfl, offJ.refl S, h7, g, fun S' o e => hk S' o (by dsimp only at e; omega)⟩
  intro P a ⟨N, hN, ei, I1, I2, I3, I4⟩ hP
  obtain ⟨y, i, S1⟩ := a
  dsimp only at ei I1 I2 I3 I4 hP
  have Q1 := Q.offJ I1
  show wX1_runThroughBridges_5_b S1 r y i (fun b0 b1 b2 => P (b0, b1, b2)) k
  unfold wX1_runThroughBridges_5_b wX1_runThroughBridges_49
  cases N with
  | zero =>
    simp only [rnv, rnh] at I4
    refine ⟨fun _ => ⟨fun c => ?_, fun c => ?_⟩, fun z => by omega⟩
    · rw [if_pos c] at I4; exact I4 S1 I1 (by omega)
    · rw [if_neg (by omega)] at I4; exact I4 S1 I1 (by omega)
  | succ N =>
    simp only [rnv, rnh] at I4
    refine ⟨fun z => by omega, fun _ => ⟨fun c => ⟨fun _ => ?_, fun c2 => by omega⟩, fun c S2 e2 w ew => ?_⟩⟩
    · rw [if_pos c, if_pos c] at I4; exact I4 S1 I1 (by omega)
    · rw [if_neg (by omega), if_neg (by omega)] at I4
      rw [w32_eq (by omega) (by omega)] at e2
      have o2 : offJ S S2 := fun a j x => by rw [e2, up_n _ (by omega)]; exact I1 a j x
      have Q2 := Q.offJ o2
      rw [Q2.2.1] at ew
      rw [ew]
      obtain ⟨oY, oM⟩ := gdx_okY O I3 c
      have hb := O.2.2.2.1
      have hx5 := (oY.2.2.2 c).1
      refine ⟨isO_b Q.2.2.1, ?_⟩
      unfold wX2_behind wX2_behind_0
      rw [w32_eq (by omega) (by omega)]
      have e4 : S2 (b + 4) (y - 1000) = mem D h y := by
        have hB := Q.2.2.2.2.1.2.2.2.2.1 (y - 1000) (by omega) hx5
        rw [Q2.1 _ _ (by omega) (by omega), hB.1]
        unfold mem
        rw [if_neg (by omega)]
      rw [e4]
      refine ⟨fun _ => ⟨by omega, C_select Q2 hr hc oM (fun S3 o3 u eu => ?_)⟩, fun z => by omega⟩
      rw [w32_eq (by omega) (by omega)] at eu
      refine hP (sel D h (mem D h y) r, u, S3) ⟨N, by omega, by dsimp only; omega, o2.trans o3.j, ?_, gdx_sel O.1 hr (gdx_sOK O.1 I3 c).2, fun S' o e => I4 S' o ?_⟩ (by dsimp only; omega)
      · dsimp only
        rw [o3 1037 7 (by omega), e2, up_s]; omega
      · dsimp only at e; omega
theorem C_hasRef {t u : Int} {k : Int → Prop} (Q : CQ S E b D h) (ht : 0 ≤ t ∧ t < D 3 h) (h1 : isR D h t u → k 1) (h0 : ¬ isR D h t u → k 0) : wX6_hasRef S (ty b t) u k := by
  have h24 := Q.n24
  have hV := (Q.2.2.2.2.2.1.2 t ht.1 ht.2).2.1
  obtain ⟨r1, r2, r3⟩ := (Q.rt ht).2.1
  unfold wX6_hasRef wX6_hasRef_0 wX6_hasRef_2
  refine wlp_for1 (D 16 (24 * h + t)).toNat (fun i => ∀ j : Int, 0 ≤ j → j < i → ¬ D 17 (5 * (24 * h + t) + j) = u) ?_ ?_ (fun j a c => by omega)
  · intro P i hi hI hP
    show wX6_hasRef_2_b S (ty b t) u i (fun b0 => P b0) k
    unfold wX6_hasRef_2_b
    have e3 : S (ty b t + 3) i = D 17 (5 * (24 * h + t) + i) := (Q.1 _ _ (by unfold ty; omega) (by unfold ty; omega)).trans (r2 i (by omega) (by omega))
    rw [Q.t (by omega), r1, e3]
    refine ⟨fun z => by omega, fun _ => ⟨by omega, fun z x ex => ?_, fun z => h1 ⟨i, by omega, by omega, z⟩⟩⟩
    rw [ex, w32_eq (by omega) (by omega)]
    refine hP (fun j j0 j1 => ?_)
    by_cases e : j = i
    · rw [e]; exact z
    · exact hI j j0 (by omega)
  · intro P hI
    show wX6_hasRef_2_b S (ty b t) u ((D 16 (24 * h + t)).toNat : Int) (fun b0 => P b0) k
    unfold wX6_hasRef_2_b
    rw [Q.t (by omega), r1]
    exact ⟨fun _ => h0 (fun ⟨j, j0, j1, j2⟩ => hI j j0 (by omega) j2), fun z => by omega⟩
theorem C_fitsSort {s c m : Int} {k : Int → Prop} (Q : CQ S E b D h) (hs : 0 ≤ s ∧ s ≤ 3) (hc : 0 ≤ c ∧ c < D 3 h) (hm : 0 ≤ m ∧ m < D 3 h) (h1 : fits D h s c m → k 1) (h0 : ¬ fits D h s c m → k 0) : wX1_fitsSort S s c m k := by
  have h24 := Q.n24
  unfold wX1_fitsSort wX1_fitsSort_0
  intro y ey
  rw [Q.2.1] at ey
  rw [ey]
  refine ⟨isO_b Q.2.2.1, by omega, fun x ex => ?_⟩
  have ex : x = ty b m := ex
  rw [ex]
  refine C_face Q hm (fun f => ⟨fun z => ⟨fun _ => h0 (fun g => g.1 ⟨z, f⟩), fun z2 => absurd z2 (by decide)⟩, fun z => ⟨Or.inr rfl, h1 ⟨fun g => by omega, fun g => g.2 f, fun g => by omega⟩⟩, fun z => ⟨fun z2 => absurd z2 (by decide), fun _ w ew => ?_⟩, fun z => h1 ⟨fun g => by omega, fun g => by omega, fun g => by omega⟩⟩) (fun f => ⟨fun z => ⟨fun z2 => absurd rfl z2, fun _ => h1 ⟨fun g => f g.2, fun g => by omega, fun g => by omega⟩⟩, fun z => ⟨Or.inl rfl, h0 (fun g => g.2.1 ⟨z, f⟩)⟩, fun z => ⟨fun _ => h1 ⟨fun g => by omega, fun g => by omega, fun g => f g.2.1⟩, fun z2 => absurd rfl z2⟩, fun z => h1 ⟨fun g => by omega, fun g => by omega, fun g => by omega⟩⟩)
  rw [Q.2.1] at ew
  refine ⟨by rw [ew]; exact isO_b Q.2.2.1, by omega, fun v ev => ?_⟩
  have ev : v = ty b c := by rw [ev, ew]; rfl
  rw [ev]
  exact C_hasRef Q hc (fun g => ⟨fun z => absurd z (by decide), fun _ => h1 ⟨fun w => by omega, fun w => by omega, fun w => w.2.2 g⟩⟩) (fun g => ⟨fun _ => h0 (fun w => w.2.2 ⟨z, f, g⟩), fun z => absurd rfl z⟩)
theorem C_placeOfSearch {s c m : Int} {k : Int → Prop} (Q : CQ S E b D h) (hc : 0 ≤ c ∧ c < D 3 h) (hm : 0 ≤ m ∧ m < D 3 h) (hk : k (plc D h s c m)) : wX1_placeOfSearch S s c m k := by
  have h24 := Q.n24
  have O := Q.2.2.2.2.2
  have fin : ∀ s0 : Int, ((s0 = 1 ∧ (¬ D 11 (24 * h + m) = 2 ∧ ¬ D 22 (24 * (24 * h + c) + m) = 0)) ∨ (s0 = 0 ∧ ¬ (¬ D 11 (24 * h + m) = 2 ∧ ¬ D 22 (24 * (24 * h + c) + m) = 0))) → wX1_placeOfSearch_36 S s c m s0 k := by
    intro s0 hs0
    unfold wX1_placeOfSearch_36
    intro y ey
    rw [Q.2.1] at ey
    refine ⟨by rw [ey]; exact isO_b Q.2.2.1, by omega, fun x ex z ez => ?_⟩
    have ex : x = ty b c := by rw [ex, ey]; rfl
    rw [ex, Q.t (by omega), (Q.rt hc).2.1.2.2] at ez
    unfold plc at hk
    have stay : ¬ upw D h s c m → k m := fun w => by rwa [if_neg w] at hk
    refine ⟨fun t => stay (fun w => t w.1), fun t => ⟨fun t2 => stay (fun w => ?_), fun t2 => ?_⟩⟩
    · rcases hs0 with a | a
      · omega
      · exact a.2 ⟨w.2.1, w.2.2⟩
    · have u : upw D h s c m := by
        rcases hs0 with a | a
        · exact ⟨t, a.2.1, a.2.2⟩
        · exact absurd a.1 t2
      have hw := upw_ok O.1 hc hm u
      rw [if_pos u] at hk
      rw [if_neg (by omega)] at ez
      refine ⟨fun t3 => by omega, fun _ => ?_⟩
      rw [ez]; exact hk
  unfold wX1_placeOfSearch wX1_placeOfSearch_0 wX1_placeOfSearch_35
  intro y ey
  rw [Q.2.1] at ey
  refine ⟨by rw [ey]; exact isO_b Q.2.2.1, by omega, fun x ex => ?_⟩
  have ex : x = ty b c := by rw [ex, ey]; rfl
  rw [ex]
  refine C_isBelow Q.1 (by omega) (by omega) (Q.rt hc).2.2.2.1 (fun u => ⟨fun z => absurd z (by decide), fun _ w ew => ?_⟩) (fun u => ⟨fun _ => fin 0 (Or.inr ⟨rfl, fun g => g.2 u⟩), fun z => absurd rfl z⟩)
  rw [Q.2.1] at ew
  refine ⟨by rw [ew]; exact isO_b Q.2.2.1, by omega, fun v ev => ?_⟩
  have ev : v = ty b m := by rw [ev, ew]; rfl
  rw [ev]
  exact C_face Q hm (fun f => ⟨fun _ => fin 0 (Or.inr ⟨rfl, fun g => g.1 f⟩), fun z => absurd z (by decide)⟩) (fun f => ⟨fun z => absurd rfl z, fun _ => fin 1 (Or.inl ⟨rfl, f, u⟩)⟩)
theorem C_fitsReceiver {s c m r : Int} {k : Int → Prop} (Q : CQ S E b D h) (hc : 0 ≤ c ∧ c < D 3 h) (hm : 0 ≤ m ∧ m < D 3 h) (hr : 0 ≤ r ∧ r < D 3 h) (h1 : rcv D h s c m r → k 1) (h0 : ¬ rcv D h s c m r → k 0) : wX1_fitsReceiver S s c m r k := by
  have h24 := Q.n24
  have O := Q.2.2.2.2.2
  unfold wX1_fitsReceiver wX1_fitsReceiver_0
  intro y ey
  rw [Q.2.1] at ey
  refine ⟨by rw [ey]; exact isO_b Q.2.2.1, by omega, fun x ex => ?_⟩
  have ex : x = ty b r := by rw [ex, ey]; rfl
  rw [ex, Q.t (by omega), (Q.rt hr).1.2.2.2.2.1]
  refine ⟨fun f => ⟨fun z w ew => ?_, fun z w ew => ?_⟩, fun f => h0 (fun g => f g.1)⟩
  · rw [Q.2.1] at ew
    rw [ew]
    refine ⟨isO_b Q.2.2.1, C_und Q hr hc (fun u => ⟨fun z => absurd z (by decide), fun _ w2 ew2 => ?_⟩) (fun u => ⟨fun _ => h0 (fun g => u (g.2.1 z).1), fun z => absurd rfl z⟩)⟩
    rw [Q.2.1] at ew2
    refine ⟨by rw [ew2]; exact isO_b Q.2.2.1, by omega, fun v ev => ?_⟩
    have ev : v = ty b c := by rw [ev, ew2]; rfl
    rw [ev]
    refine C_isBelow Q.1 (by omega) (by omega) (Q.rt hc).2.2.2.1 (fun u2 => ⟨fun z => absurd z (by decide), fun _ => h1 ⟨f, fun _ => ⟨u, ?_, Or.inr u2⟩, fun w => absurd z w⟩⟩) (fun u2 => ⟨fun _ => h0 (fun g => ?_), fun z => absurd rfl z⟩)
    · intro e
      have := ((O.1.2 c hc.1 hc.2).2.2.2.2.2.2 m hm.1 (by omega) u2).1
      omega
    · rcases (g.2.1 z).2.2 with t | t
      · exact (g.2.1 z).2.1 t
      · exact t u2
  · rw [Q.2.1] at ew
    rw [ew]
    exact ⟨isO_b Q.2.2.1, C_und Q hr hm (fun u => ⟨Or.inr rfl, h1 ⟨f, fun t => absurd t z, fun _ => u⟩⟩) (fun u => ⟨Or.inl rfl, h0 (fun g => u (g.2.2 z))⟩)⟩
theorem C_judge {s c m q r : Int} {k : Int → St → Prop} (Q : CQ S E b D h) (hs : 0 ≤ s ∧ s ≤ 3) (hc : 0 ≤ c ∧ c < D 3 h) (hm : 0 ≤ m ∧ m < D 3 h) (hq : 0 ≤ q ∧ q < D 4 h) (hr : ¬ s = 3 → 0 ≤ r ∧ r < D 3 h) (hk : ∀ S', offJ S S' → S' 1037 7 = (rul D h s c m q r).2 → k (rul D h s c m q r).1 S') : wX1_judge S s c m q r k := by
  have h24 := Q.n24
  have O := Q.2.2.2.2.2
  have m120 := O.2.2.1
  unfold wX1_judge wX1_judge_0
  intro T eT
  have oT : offJ S T := fun a j x => by rw [eT, up_n _ (by omega)]
  have QT := Q.offJ oT
  have T7 : T 1037 7 = 0 := by rw [eT, up_s]
  unfold rul at hk
  refine C_fitsSort QT hs hc hm (fun hfit => ⟨fun _ => C_placeOfSearch QT hc hm (fun y ey => ?_), fun z => absurd z (by decide)⟩) (fun hfit => ⟨fun z => absurd rfl z, fun _ => ?_⟩)
  · rw [if_pos hfit] at hk
    rw [QT.2.1] at ey
    refine ⟨by rw [ey]; exact isO_b Q.2.2.1, by omega, fun x ex => ?_⟩
    have ex : x = me b q := by rw [ex, ey]; rfl
    rw [ex, QT.m (by omega)]
    have hpl : 0 ≤ plc D h s c m ∧ plc D h s c m < D 3 h := by
      by_cases w : upw D h s c m
      · have ep : plc D h s c m = D 19 (24 * h + c) := by unfold plc; rw [if_pos w]
        have hw := upw_ok O.1 hc hm w
        rw [ep]; exact ⟨hw.1, hw.2.1⟩
      · have ep : plc D h s c m = m := by unfold plc; rw [if_neg w]
        rw [ep]; exact hm
    refine C_find QT hpl hq (fun S1 o1 => ?_)
    obtain ⟨f, ef⟩ : ∃ f, f = fnd D h (plc D h s c m) q := ⟨_, rfl⟩
    rw [← ef] at hk ⊢
    have Q1 := QT.off o1
    have S7 : S1 1037 7 = 0 := (o1 1037 7 (by omega)).trans T7
    have o1J := oT.trans o1.j
    unfold rulF at hk
    by_cases f0 : 0 ≤ f
    · rw [if_neg (by omega)] at hk
      have hg : 0 ≤ fnd D h (plc D h s c m) q := by rw [← ef]; exact f0
      obtain ⟨u0, u1, u2, u3⟩ := fnd_mem O.1 hpl hg
      rw [← ef] at u2
      have oY : okY D h f := by rw [u2]; exact mI_okY O u1 (by omega)
      have hmf := (okX_mem oY.1).1
      have mid : ∀ s4 : Int, s4 = (if s = 3 then c else r) → wX1_judge_68 S1 s c m r f c m f s4 k := by
        intro s4 e4
        rw [← e4] at hk
        have h4 : 0 ≤ s4 ∧ s4 < D 3 h := by
          by_cases e3 : s = 3
          · rw [if_pos e3] at e4; omega
          · rw [if_neg e3] at e4; have := hr e3; omega
        unfold wX1_judge_68
        refine C_isGranted Q1 hc hm h4 oY (fun g => ⟨fun _ => C_memberOf Q1 oY ?_, fun z => absurd z (by decide)⟩) (fun g => ⟨fun z => absurd rfl z, fun _ => ?_⟩)
        · rw [if_pos g] at hk
          have fin : ∀ s0 s1 : Int, ((s0 = 1 ∧ shp D h f = 1) ∨ (s0 = 0 ∧ ¬ shp D h f = 1)) → ((s1 = 1 ∧ s = 3) ∨ (s1 = 0 ∧ ¬ s = 3)) → wX1_judge_96 S1 s c m r f s0 s1 k := by
            intro s0 s1 hs0 hs1
            have iff1 : s0 = s1 ↔ (shp D h f = 1 ↔ s = 3) := by
              rcases hs0 with a | a
              · rcases hs1 with b | b
                · exact ⟨fun _ => ⟨fun _ => b.2, fun _ => a.2⟩, fun _ => by omega⟩
                · exact ⟨fun z => by omega, fun z => absurd (z.mp a.2) b.2⟩
              · rcases hs1 with b | b
                · exact ⟨fun z => by omega, fun z => absurd (z.mpr b.2) a.2⟩
                · exact ⟨fun _ => ⟨fun z => absurd z a.2, fun z => absurd z b.2⟩, fun _ => by omega⟩
            unfold wX1_judge_96
            refine ⟨fun z => ?_, fun z => ?_⟩
            · have g2 := iff1.mp z
              rw [if_pos g2] at hk
              refine ⟨fun e3 => ?_, fun e3 => ?_⟩
              · rw [if_neg e3] at hk
                have hr' := hr e3
                refine C_fitsReceiver Q1 hc hm hr' (fun v => ⟨fun _ => ?_, fun z => absurd z (by decide)⟩) (fun v => ⟨fun z => absurd rfl z, fun _ => ?_⟩)
                · rw [if_pos v] at hk
                  obtain ⟨u, w1, w2, w3⟩ := rul_gdx (q := q) O.1 hc hm hr' hfit hg v (by omega)
                  rw [← ef] at w2
                  have nst : ¬ shp D h f = 1 := fun z => e3 (g2.mp z)
                  have hcl : ¬ D 11 (24 * h + r) = 2 := by have := v.1; omega
                  refine ⟨fun e2 => C_select Q1 hr' hcl oY (fun S2 o2 => ?_), fun e2 => ?_⟩
                  · rw [if_pos (by omega)] at hk
                    refine C_run (Q1.off o2) hr' hcl ((o2 1037 7 (by omega)).trans S7) (gdx_sel O.1 hr' (sOK_of O.1 w1 w2 f0 nst w3)) (fun S3 o3 e => hk S3 (o1J.trans (o2.j.trans o3)) e)
                  · rw [if_neg (by omega)] at hk
                    refine C_isAbstract Q1 oY (fun t => ⟨fun z => absurd z (by decide), fun _ => ?_⟩) (fun t => ⟨fun _ => ?_, fun z => absurd rfl z⟩)
                    · have er : rns D h f = -4 := by unfold rns; rw [if_pos t]
                      rw [er] at hk
                      have a1 : rnv D h r 8 (-4) = -4 := by rw [rnv, if_pos (by decide)]
                      have a2 : rnh D h r 8 (-4) = 0 := by rw [rnh, if_pos (by decide)]
                      rw [a1, a2] at hk
                      exact hk S1 o1J S7
                    · have er : rns D h f = f := by unfold rns; rw [if_neg t]
                      rw [er] at hk
                      exact C_run Q1 hr' hcl S7 (Or.inr ⟨u, q, w1, w2, w3⟩) (fun S3 o3 e => hk S3 (o1J.trans o3) e)
                · rw [if_neg v] at hk
                  exact hk S1 o1J S7
              · rw [if_pos e3] at hk
                exact hk S1 o1J S7
            · rw [if_neg (fun w => z (iff1.mpr w))] at hk
              exact hk S1 o1J S7
          unfold wX3_isStatic wX3_isStatic_0
          rw [Q1.m hmf, (Q1.rm ⟨hmf.1, oY.2.1⟩).2.2.2.1, (okY_shp oY).2]
          exact ⟨fun t => ⟨fun z => fin 0 0 (Or.inr ⟨rfl, t⟩) (Or.inr ⟨rfl, z⟩), fun z => fin 0 1 (Or.inr ⟨rfl, t⟩) (Or.inl ⟨rfl, z⟩)⟩, fun t => ⟨fun z => fin 1 0 (Or.inl ⟨rfl, t⟩) (Or.inr ⟨rfl, z⟩), fun z => fin 1 1 (Or.inl ⟨rfl, t⟩) (Or.inl ⟨rfl, z⟩)⟩⟩
        · rw [if_neg g] at hk
          exact hk S1 o1J S7
      exact ⟨fun _ => ⟨fun z => mid r (by rw [if_neg z]), fun z => mid c (by rw [if_pos z])⟩, fun z => by omega⟩
    · rw [if_pos (by omega)] at hk
      have e1 : f = -1 := by
        rw [ef] at f0 ⊢
        unfold fnd at f0 ⊢
        by_cases z : 0 ≤ lkC D h q 24 (plc D h s c m)
        · rw [if_pos z] at f0; exact absurd z f0
        · rw [if_neg z] at f0 ⊢
          have hok : ∀ x ∈ caL D h (plc D h s c m) q, okY D h x := by
            have hU := (O.1.1.2 _ hpl.1 hpl.2).2.2.1
            exact caN_okY Q hpl _ (by omega)
          cases eL : caL D h (plc D h s c m) q with
          | nil => rfl
          | cons y ys =>
            rw [eL] at f0 hok
            exfalso
            apply f0
            unfold fcs
            dsimp only
            split
            · rename_i x hx
              have : x ∈ bdL D h (y :: ys) := by rw [hx]; exact List.mem_cons_self
              exact okY_0 (hok x (spN_sub D h _ _ (Nat.le_refl _) x (List.mem_filter.mp this).1))
            · exact okY_0 (hok y List.mem_cons_self)
      exact ⟨fun z => absurd e1 z, fun _ => hk S1 o1J S7⟩
  · rw [if_neg hfit] at hk
    exact hk T oT T7
/-- how many members of t, and of those above it, give an outcome -/
def srt (D : St) (h as x : Int) : Int := if ¬ as = 0 ∧ D 31 (120 * h + x) = 1 then 3 else if D 11 (24 * h + D 28 (120 * h + x)) = 2 then 1 else 0
noncomputable def out1 (D : St) (h t oc as x : Int) : Int := @ite _ (und D h t (D 28 (120 * h + x)) ∧ ((rul D h (srt D h as x) (D 28 (120 * h + x)) (D 28 (120 * h + x)) x t).1 = oc ∨ (oc = 0 ∧ 0 ≤ (rul D h (srt D h as x) (D 28 (120 * h + x)) (D 28 (120 * h + x)) x t).1))) (Classical.propDecidable _) 1 0
noncomputable def outN (D : St) (h t oc as : Int) : Nat → Int
  | 0 => 0
  | n + 1 => outN D h t oc as n + out1 D h t oc as n
theorem out1_01 (D : St) (h t oc as x : Int) : 0 ≤ out1 D h t oc as x ∧ out1 D h t oc as x ≤ 1 := by
  unfold out1
  split <;> omega
theorem outN_le (D : St) (h t oc as : Int) (n : Nat) : 0 ≤ outN D h t oc as n ∧ outN D h t oc as n ≤ n := by
  induction n with
  | zero => simp [outN]
  | succ n ih =>
    have := out1_01 D h t oc as n
    simp only [outN]
    omega
theorem C_count {t oc : Int} {k : Int → St → Prop} (Q : CQ S E b D h) (ht : 0 ≤ t ∧ t < D 3 h) (hoc : oc ≤ 0) (hk : ∀ S', offJ S S' → k (outN D h t oc 1 (D 4 h).toNat) S') : wX1_count S t oc k := by
  have h24 := Q.n24
  have O := Q.2.2.2.2.2
  have m120 := O.2.2.1
  unfold wX1_count wX1_count_0 wX1_count_5
  refine wlp_of (fun a : Int × Int × St => ∃ i : Nat, (i : Int) ≤ D 4 h ∧ a.2.1 = i ∧ a.1 = outN D h t oc 1 i ∧ offJ S a.2.2) (fun a => (D 4 h - a.2.1).toNat) ?_ ⟨0, m120.1, rfl, rfl, offJ.refl S⟩
  intro P a ⟨i, hi, e1, e2, o1⟩ hP
  obtain ⟨n, x, S1⟩ := a
  dsimp only at e1 e2 o1 hP
  subst e1; subst e2
  have Q1 := Q.offJ o1
  show wX1_count_5_b S1 t oc (outN D h t oc 1 i) i (fun b0 b1 b2 => P (b0, b1, b2)) k
  unfold wX1_count_5_b
  intro y ey
  rw [Q1.2.1] at ey
  have e3 : S1 y 3 = D 4 h := by rw [ey]; exact (Q1.1 _ _ (by omega) (by omega)).trans Q.2.2.2.2.1.1.2.1
  rw [e3]
  refine ⟨by rw [ey]; exact isO_b Q.2.2.1, fun z => ?_, fun z w ew => ?_⟩
  · have : (D 4 h).toNat = i := by omega
    rw [this] at hk
    exact hk S1 o1
  · rw [Q1.2.1] at ew
    have hm : 0 ≤ (i : Int) ∧ (i : Int) < D 4 h := by omega
    have rm := Q.rm hm
    obtain ⟨oM, oT, _⟩ := O.2.2.2.2.1 i hm.1 hm.2
    have hle := outN_le D h t oc 1 i
    obtain ⟨o, eo⟩ : ∃ o, o = D 28 (120 * h + i) := ⟨_, rfl⟩
    have ho : 0 ≤ o ∧ o < D 3 h := by rw [eo]; exact ⟨oM.2.1.1, oT⟩
    refine ⟨by rw [ew]; exact isO_b Q.2.2.1, by omega, fun v ev u eu => ?_⟩
    have ev : v = me b i := by rw [ev, ew]; rfl
    rw [Q1.2.1] at eu
    have a1 : S1 (me b i) 1 = o := by rw [Q1.m (by omega), rm.2.1, eo]
    have a3 : S1 (me b i) 3 = D 31 (120 * h + i) := by rw [Q1.m (by omega), rm.2.2.2.1]
    rw [ev, eu, a1]
    have fin : ∀ s0 : Int, s0 = srt D h 1 i → und D h t o → wX1_count_81 S1 t oc (outN D h t oc 1 i) i (me b i) s0 (fun b0 b1 b2 => P (b0, b1, b2)) k := by
      intro s0 es0 u
      have s03 : 0 ≤ s0 ∧ s0 ≤ 3 := by rw [es0]; unfold srt; split <;> (try split) <;> omega
      unfold wX1_count_81
      rw [a1]
      refine C_judge Q1 s03 ho ho hm (fun _ => ht) (fun S2 o2 _ => ?_)
      obtain ⟨v, ev⟩ : ∃ v, v = (rul D h s0 o o i t).1 := ⟨_, rfl⟩
      rw [← ev]
      have key : out1 D h t oc 1 i = if min32 v 0 = oc then 1 else 0 := by
        have e5 : (v = oc ∨ (oc = 0 ∧ 0 ≤ v)) ↔ min32 v 0 = oc := by unfold min32; split <;> omega
        have e6 : (und D h t (D 28 (120 * h + i)) ∧ ((rul D h (srt D h 1 i) (D 28 (120 * h + i)) (D 28 (120 * h + i)) i t).1 = oc ∨ (oc = 0 ∧ 0 ≤ (rul D h (srt D h 1 i) (D 28 (120 * h + i)) (D 28 (120 * h + i)) i t).1))) ↔ min32 v 0 = oc := by
          rw [← eo, ← es0, ← ev, ← e5]
          exact ⟨fun z => z.2, fun z => ⟨u, z⟩⟩
        unfold out1
        by_cases c : min32 v 0 = oc
        · rw [if_pos c, if_pos (e6.mpr c)]
        · rw [if_neg c, if_neg (fun z => c (e6.mp z))]
      refine ⟨fun z y ey => ?_, fun z y ey y2 ey2 => ?_⟩
      · rw [ey, w32_eq (by omega) (by omega)]
        refine hP (_, (i : Int) + 1, S2) ⟨i + 1, by omega, by dsimp only; omega, ?_, o1.trans o2⟩ (by dsimp only; omega)
        simp only [outN]
        rw [key, if_neg z]; omega
      · rw [ey2, ey, w32_eq (by omega) (by omega), w32_eq (by omega) (by omega)]
        refine hP (_, (i : Int) + 1, S2) ⟨i + 1, by omega, by dsimp only; omega, ?_, o1.trans o2⟩ (by dsimp only; omega)
        simp only [outN]
        rw [key, if_pos z]
    refine ⟨isO_b Q.2.2.1, C_und Q1 ht ho (fun u => ⟨fun z => absurd z (by decide), fun _ => ?_⟩) (fun u => ⟨fun _ y ey => ?_, fun z => absurd rfl z⟩)⟩
    · unfold wX3_isStatic wX3_isStatic_0
      rw [a3]
      refine ⟨fun z => ⟨fun _ y ey => ?_, fun z2 => absurd rfl z2⟩, fun z => ⟨fun z2 => absurd z2 (by decide), fun _ => fin 3 (by unfold srt; rw [if_pos ⟨by decide, z⟩]) u⟩⟩
      rw [Q1.2.1] at ey
      refine ⟨by rw [ey]; exact isO_b Q.2.2.1, by omega, fun v2 ev2 => ?_⟩
      have ev2 : v2 = ty b o := by rw [ev2, ey]; rfl
      rw [ev2]
      refine C_face Q1 ho (fun f => ⟨fun z => absurd z (by decide), fun _ => fin 1 ?_ u⟩) (fun f => ⟨fun _ => fin 0 ?_ u, fun z => absurd rfl z⟩)
      · unfold srt; rw [if_neg (fun w => z w.2), ← eo, if_pos f]
      · unfold srt; rw [if_neg (fun w => z w.2), ← eo, if_neg f]
    · rw [ey, w32_eq (by omega) (by omega)]
      refine hP (_, (i : Int) + 1, S1) ⟨i + 1, by omega, by dsimp only; omega, ?_, o1⟩ (by dsimp only; omega)
      simp only [outN]
      have : out1 D h t oc 1 i = 0 := by
        unfold out1
        rw [if_neg (fun w => u (by rw [eo]; exact w.1))]
      rw [this]; omega
end Judge
theorem R_outcomes {S D : St} {h t oc as : Int} {k : Int → St → Prop} (A : AgD S D) (hS : S 0 10 = h) (hh : half01 h) (O : okA D h) (ht : 0 ≤ t ∧ t < D 3 h) (hk : ∀ S', offR S S' → k (outN D h t oc as (D 4 h).toNat) S') : wX8_outcomes S t oc as k := by
  have h24 := O.1.1.1
  have m120 := O.2.2.1
  have hb01 : 0 ≤ h ∧ h ≤ 1 := by unfold half01 at hh; omega
  unfold wX8_outcomes wX8_outcomes_0 wX8_outcomes_6
  refine wlp_of (fun a : Int × Int × St => ∃ i : Nat, (i : Int) ≤ D 4 h ∧ a.2.1 = i ∧ a.1 = outN D h t oc as i ∧ offR S a.2.2) (fun a => (D 4 h - a.2.1).toNat) ?_ ⟨0, m120.1, rfl, rfl, offR.refl S⟩
  intro P a ⟨i, hi, e1, e2, o1⟩ hP
  obtain ⟨n, x, S1⟩ := a
  dsimp only at e1 e2 o1 hP
  subst e1; subst e2
  have A1 := o1.ag A
  have hS1 := o1.hf hS
  show wX8_outcomes_6_b S1 t oc as (outN D h t oc as i) i (fun b0 b1 b2 => P (b0, b1, b2)) k
  unfold wX8_outcomes_6_b
  rw [hS1, A1 4 _ (by decide) (by decide)]
  refine ⟨by omega, fun z => ?_, fun z => ?_⟩
  · have : (D 4 h).toNat = i := by omega
    rw [this] at hk
    exact hk S1 o1
  · have hm : 0 ≤ (i : Int) ∧ (i : Int) < D 4 h := by omega
    obtain ⟨oM, oT, _⟩ := O.2.2.2.2.1 i hm.1 hm.2
    have hle := outN_le D h t oc as i
    obtain ⟨o, eo⟩ : ∃ o, o = D 28 (120 * h + i) := ⟨_, rfl⟩
    have ho : 0 ≤ o ∧ o < D 3 h := by rw [eo]; exact ⟨oM.2.1.1, oT⟩
    have fin : ∀ s0 : Int, s0 = srt D h as i → und D h t o → wX8_outcomes_86 S1 t oc as (outN D h t oc as i) i o s0 (fun b0 b1 b2 => P (b0, b1, b2)) k := by
      intro s0 es0 u
      have s03 : 0 ≤ s0 ∧ s0 ≤ 3 := by rw [es0]; unfold srt; split <;> (try split) <;> omega
      unfold wX8_outcomes_86 wX8_outcomes_120 wX8_outcomes_124
      refine R_ruled A1 hS1 hh O.1 s03 ho ho oM (fun _ => ht) (fun S2 o2 _ => ?_)
      obtain ⟨v, ev⟩ : ∃ v, v = (rul D h s0 o o i t).1 := ⟨_, rfl⟩
      rw [← ev]
      have e6 : (und D h t (D 28 (120 * h + i)) ∧ ((rul D h (srt D h as i) (D 28 (120 * h + i)) (D 28 (120 * h + i)) i t).1 = oc ∨ (oc = 0 ∧ 0 ≤ (rul D h (srt D h as i) (D 28 (120 * h + i)) (D 28 (120 * h + i)) i t).1))) ↔ (v = oc ∨ (oc = 0 ∧ 0 ≤ v)) := by
        rw [← eo, ← es0, ← ev]
        exact ⟨fun z => z.2, fun z => ⟨u, z⟩⟩
      have yes : (v = oc ∨ (oc = 0 ∧ 0 ≤ v)) → ∀ x_3 : Int, x_3 = w32 (outN D h t oc as i + 1) → ∀ x_4 : Int, x_4 = w32 ((i : Int) + 1) → P (x_3, x_4, S2) := by
        intro c y ey y2 ey2
        rw [ey2, ey, w32_eq (by omega) (by omega), w32_eq (by omega) (by omega)]
        refine hP (_, (i : Int) + 1, S2) ⟨i + 1, by omega, by dsimp only; omega, ?_, o1.trans o2⟩ (by dsimp only; omega)
        simp only [outN]
        have : out1 D h t oc as i = 1 := by unfold out1; rw [if_pos (e6.mpr c)]
        rw [this]
      have no : ¬ (v = oc ∨ (oc = 0 ∧ 0 ≤ v)) → ∀ x_3 : Int, x_3 = w32 (outN D h t oc as i + 0) → ∀ x_4 : Int, x_4 = w32 ((i : Int) + 1) → P (x_3, x_4, S2) := by
        intro c y ey y2 ey2
        rw [ey2, ey, w32_eq (by omega) (by omega), w32_eq (by omega) (by omega)]
        refine hP (_, (i : Int) + 1, S2) ⟨i + 1, by omega, by dsimp only; omega, ?_, o1.trans o2⟩ (by dsimp only; omega)
        simp only [outN]
        have : out1 D h t oc as i = 0 := by unfold out1; rw [if_neg (fun z => c (e6.mp z))]
        rw [this]
      exact ⟨fun z => yes (Or.inl z), fun z => ⟨fun z2 => no (fun w => by omega), fun z2 => ⟨fun z3 => no (fun w => by omega), fun z3 => yes (Or.inr ⟨z2, z3⟩)⟩⟩⟩
    refine R_m hS1 hh (by omega) ?_
    rw [A1 28 _ (by decide) (by decide)]
    refine ⟨by omega, fun y ey => ?_⟩
    rw [← eo] at ey
    rw [ey]
    have t66 : ¬ (¬ as = 0 ∧ D 31 (120 * h + i) = 1) → und D h t o → wX8_outcomes_66 S1 t oc as (outN D h t oc as i) i o (fun b0 b1 b2 => P (b0, b1, b2)) k := by
      intro c u
      unfold wX8_outcomes_66
      refine R_t hS1 hh (by omega) ?_
      rw [A1 11 _ (by decide) (by decide)]
      refine ⟨by omega, fun f => fin 0 ?_ u, fun f => fin 1 ?_ u⟩
      · unfold srt; rw [if_neg c, ← eo, if_neg f]
      · unfold srt; rw [if_neg c, ← eo, if_pos f]
    refine R_und A1 hS1 hh (by omega) (by omega) (fun u => ⟨fun z => absurd z (by decide), fun _ => ⟨fun z => t66 (fun w => w.1 z) u, fun z => R_m hS1 hh (by omega) ?_⟩⟩) (fun u => ⟨fun _ y ey => ?_, fun z => absurd rfl z⟩)
    · rw [A1 31 _ (by decide) (by decide)]
      refine ⟨by omega, fun c => t66 (fun w => c w.2) u, fun c => fin 3 ?_ u⟩
      unfold srt; rw [if_pos ⟨z, c⟩]
    · rw [ey, w32_eq (by omega) (by omega)]
      refine hP (_, (i : Int) + 1, S1) ⟨i + 1, by omega, by dsimp only; omega, ?_, o1⟩ (by dsimp only; omega)
      simp only [outN]
      have : out1 D h t oc as i = 0 := by
        unfold out1
        rw [if_neg (fun w => u (by rw [eo]; exact w.1))]
      rw [this]; omega
/-- a static member gives no -3, whatever the SORT -/
theorem rul_st {D : St} {h t x s : Int} (O : okA D h) (hx : 0 ≤ x ∧ x < D 4 h) (hs : D 31 (120 * h + x) = 1) : ¬ (rul D h s (D 28 (120 * h + x)) (D 28 (120 * h + x)) x t).1 = -3 := by
  obtain ⟨oM, oT, oF1, oF2⟩ := O.2.2.2.2.1 x hx.1 hx.2
  have m120 := O.2.2.1
  obtain ⟨o, eo⟩ : ∃ o, o = D 28 (120 * h + x) := ⟨_, rfl⟩
  rw [← eo] at oT oF1 oF2 ⊢
  have o0 : 0 ≤ o := by rw [eo]; exact oM.2.1.1
  have hV := O.1.2 o o0 oT
  have hmx := (hV.2.2.2.2.1 x oF1 oF2).2.1
  unfold rul
  split
  · have ep : plc D h s o o = o := by
      unfold plc
      rw [if_neg]
      intro u
      have h24 := O.1.1.1
      have := (hV.2.2.2.2.2.2 o o0 (by omega) u.2.2).1
      omega
    have ef : fnd D h (plc D h s o o) x = x := by
      rw [ep]
      have el : lkC D h x 24 o = x := by
        rw [lkC, if_neg (by omega), hmx, if_pos hx.1]
      unfold fnd
      rw [el, if_pos hx.1]
    rw [ef]
    unfold rulF
    rw [if_neg (by omega)]
    have es : shp D h x = 1 := by unfold shp; rw [if_pos (by omega)]; exact hs
    by_cases my : may D h o o x (if s = 3 then o else t)
    · rw [if_pos my]
      by_cases c : (shp D h x = 1 ↔ s = 3)
      · rw [if_pos c, if_pos (c.mp es)]
        show ¬ x = -3
        omega
      · rw [if_neg c]
        show ¬ (-5 : Int) = -3
        decide
    · rw [if_neg my]
      show ¬ (-2 : Int) = -3
      decide
  · show ¬ (-5 : Int) = -3
    decide
theorem outN_st {D : St} {h t : Int} (O : okA D h) (n : Nat) (hn : (n : Int) ≤ D 4 h) : outN D h t (-3) 0 n = outN D h t (-3) 1 n := by
  induction n with
  | zero => rfl
  | succ n ih =>
    simp only [outN]
    rw [ih (by omega)]
    have : out1 D h t (-3) 0 n = out1 D h t (-3) 1 n := by
      by_cases c : D 31 (120 * h + n) = 1
      · have a : ∀ as, out1 D h t (-3) as n = 0 := by
          intro as
          unfold out1
          rw [if_neg]
          rintro ⟨_, z | z⟩
          · exact rul_st O ⟨by omega, by omega⟩ c z
          · exact absurd z.1 (by decide)
        rw [a, a]
      · have e : srt D h 0 n = srt D h 1 n := by
          unfold srt
          rw [if_neg (show ¬ (¬ (0 : Int) = 0 ∧ D 31 (120 * h + n) = 1) from fun w => w.1 rfl), if_neg (show ¬ (¬ (1 : Int) = 0 ∧ D 31 (120 * h + n) = 1) from fun w => c w.2)]
        unfold out1
        rw [e]
    rw [this]
