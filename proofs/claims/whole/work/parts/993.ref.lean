/-! pure: reading: a REF, both together -/
/-- a REF is put: what changes in the class, in the reference -/
def RfC (S S' : St) (b t c r : Int) (cl : Prop) : Prop := (S' (ty b t + 3) c = r ∧ S' (ty b t) 9 = c + 1 ∧ S' (ty b t) 14 = or32 (S (ty b t) 14) (shl32 1 r) ∧ S' 1032 13 = r) ∧ (cl → S' (ty b t) 11 = r) ∧ (¬ cl → S' (ty b t) 11 = S (ty b t) 11) ∧ ∀ a j, ¬ (a = 1032 ∧ ((4 ≤ j ∧ j ≤ 6) ∨ j = 13)) → ¬ (a = ty b t + 3 ∧ j = c) → ¬ (a = ty b t ∧ (j = 9 ∨ j = 11 ∨ j = 14)) → S' a j = S a j
def RfR (D D' : St) (h t c r : Int) (cl : Prop) : Prop := (D' 17 (5 * (24 * h + t) + c) = r ∧ D' 16 (24 * h + t) = c + 1) ∧ (cl → D' 19 (24 * h + t) = r) ∧ (¬ cl → D' 19 (24 * h + t) = D 19 (24 * h + t)) ∧ ∀ a j, ¬ (a = 0 ∧ 4 ≤ j ∧ j ≤ 7) → ¬ (a = 17 ∧ j = 5 * (24 * h + t) + c) → ¬ ((a = 16 ∨ a = 19) ∧ j = 24 * h + t) → D' a j = D a j
section Ref
variable {T te so va pl : Int → Int} {n N i b h t r c q : Int} {S D S' D' : St}
theorem C_hr {u : Int} {k : Int → Prop} (hV : 0 ≤ D 16 (24 * h + t) ∧ D 16 (24 * h + t) ≤ 4) (rr : rR S b D h t) (h1 : isRf D h t u → k 1) (h0 : ¬ isRf D h t u → k 0) : wX6_hasRef S (ty b t) u k := by
  obtain ⟨r1, r2, r3⟩ := rr
  unfold wX6_hasRef wX6_hasRef_0 wX6_hasRef_2
  refine wlp_for1 (D 16 (24 * h + t)).toNat (fun i => ∀ j : Int, 0 ≤ j → j < i → ¬ D 17 (5 * (24 * h + t) + j) = u) ?_ ?_ (fun j a c => by omega)
  · intro P i hi hI hP
    show wX6_hasRef_2_b S (ty b t) u i (fun b0 => P b0) k
    unfold wX6_hasRef_2_b
    rw [r1, r2 i (by omega) (by omega)]
    refine ⟨fun z => by omega, fun _ => ⟨by omega, fun z x ex => ?_, fun z => h1 ⟨i, by omega, by omega, z⟩⟩⟩
    rw [ex, w32_eq (by omega) (by omega)]
    refine hP (fun j j0 j1 => ?_)
    by_cases e : j = i
    · rw [e]; exact z
    · exact hI j j0 (by omega)
  · intro P hI
    show wX6_hasRef_2_b S (ty b t) u ((D 16 (24 * h + t)).toNat : Int) (fun b0 => P b0) k
    unfold wX6_hasRef_2_b
    rw [r1]
    exact ⟨fun _ => h0 (fun ⟨j, j0, j1, j2⟩ => hI j j0 (by omega) j2), fun z => by omega⟩
/-- a REF twice, or one that is wrong -/
theorem R_74 {P12 : Int → St → Prop} {k : St → Prop} (hh : half01 h) (ht : 0 ≤ t ∧ t < 24) (hr : 0 ≤ r ∧ r < 24) (hD : D 0 10 = h) (hV : 0 ≤ D 16 (24 * h + t) ∧ D 16 (24 * h + t) ≤ 4) (h1 : (isRf D h t r ∨ (D 11 (24 * h + r) < 2 ∧ (D 11 (24 * h + t) = 2 ∨ 0 < D 16 (24 * h + t)))) → wX8_readRefs_158 D k) (h0 : ¬ (isRf D h t r ∨ (D 11 (24 * h + r) < 2 ∧ (D 11 (24 * h + t) = 2 ∨ 0 < D 16 (24 * h + t)))) → wX8_readRefs_168 D t (24 * h + t) r P12 k) : wX8_readRefs_74 D t (24 * h + t) r 0 0 P12 k := by
  have h01 : 0 ≤ h ∧ h ≤ 1 := by unfold half01 at hh; omega
  unfold wX8_readRefs_74
  refine wlp_of (fun a : Int × Int => (0 ≤ a.2 ∧ a.2 ≤ D 16 (24 * h + t)) ∧ ((a.1 = 0 ∧ ∀ n, 0 ≤ n → n < a.2 → ¬ rf D h t n = r) ∨ (a.1 = 1 ∧ isRf D h t r))) (fun a => (D 16 (24 * h + t) - a.2).toNat) ?_ ⟨⟨Int.le_refl _, hV.1⟩, Or.inl ⟨rfl, fun n n0 n1 => by have n1 : n < 0 := n1; clear h0 h1; omega⟩⟩
  rintro P ⟨x5, x6⟩ ⟨⟨i1, i2⟩, i3⟩ hP
  dsimp only at i1 i2 i3
  show wX8_readRefs_74_b D t (24 * h + t) r x5 x6 P12 (fun b0 b1 => P (b0, b1)) k
  have hi : 0 ≤ 24 * h + t ∧ 24 * h + t < 48 := by clear h0 h1 i3 hP; omega
  have go : x6 < D 16 (24 * h + t) → isRf D h t r → wX8_readRefs_106 D t (24 * h + t) r x6 P12 (fun b0 b1 => P (b0, b1)) k := by
    intro z w
    unfold wX8_readRefs_106
    intro y ey
    rw [w32_eq (by clear h0 h1 i3 hP w; omega) (by clear h0 h1 i3 hP w; omega)] at ey
    exact hP (1, y) ⟨⟨by show 0 ≤ y; clear h0 h1 i3 hP w; omega, by show y ≤ D 16 (24 * h + t); clear h0 h1 i3 hP w; omega⟩, Or.inr ⟨rfl, w⟩⟩ (by show (D 16 (24 * h + t) - y).toNat < (D 16 (24 * h + t) - x6).toNat; clear h0 h1 i3 hP w; omega)
  unfold wX8_readRefs_74_b
  refine ⟨hi, fun z => ⟨fun z5 => ?_, fun z5 => ?_⟩, fun z => ⟨fun z5 => ?_, fun z5 => ?_⟩⟩
  · rcases i3 with w | w
    · exact absurd w.1 z5
    · exact h1 (Or.inl w.2)
  · have nr : ¬ isRf D h t r := by
      rcases i3 with w | w
      · intro g
        obtain ⟨n, n0, n1, n2⟩ := g
        exact w.2 n n0 (by have := w.1; clear h0 h1 hP w go; omega) n2
      · have := w.1; clear h0 h1 hP go w; omega
    unfold wX8_t wX8_t_0
    rw [hD, w32_eq (x := 24 * h) (by clear h0 h1 i3 hP go nr; omega) (by clear h0 h1 i3 hP go nr; omega), w32_eq (x := 24 * h + r) (by clear h0 h1 i3 hP go nr; omega) (by clear h0 h1 i3 hP go nr; omega)]
    refine ⟨by clear h0 h1 i3 hP go nr; omega, fun f2 => h0 (fun w => ?_), fun f2 => ⟨hi, fun e => h1 (Or.inr ⟨f2, Or.inl e⟩), fun ne => ⟨hi, fun n0 => h0 (fun w => ?_), fun n0 => h1 (Or.inr ⟨f2, Or.inr n0⟩)⟩⟩⟩
    · rcases w with w | w
      · exact nr w
      · have := w.1; clear h0 h1 i3 hP go nr w; omega
    · rcases w with w | w
      · exact nr w
      · rcases w.2 with w | w
        · exact ne w
        · clear h0 h1 i3 hP go nr; omega
  · rcases i3 with w | w
    · exact absurd w.1 z5
    · exact go z w.2
  · rw [w32_eq (x := 5 * (24 * h + t)) (by clear h0 h1 i3 hP go; omega) (by clear h0 h1 i3 hP go; omega), w32_eq (x := 5 * (24 * h + t) + x6) (by clear h0 h1 i3 hP go; omega) (by clear h0 h1 i3 hP go; omega)]
    refine ⟨by clear h0 h1 i3 hP go; omega, fun ne y ey => ?_, fun e => go z ⟨x6, i1, z, e⟩⟩
    rw [w32_eq (by clear h0 h1 i3 hP go; omega) (by clear h0 h1 i3 hP go; omega)] at ey
    refine hP (0, y) ⟨⟨by show 0 ≤ y; clear h0 h1 i3 hP go; omega, by show y ≤ D 16 (24 * h + t); clear h0 h1 i3 hP go; omega⟩, Or.inl ⟨rfl, fun n n0 n1 => ?_⟩⟩ (by show (D 16 (24 * h + t) - y).toNat < (D 16 (24 * h + t) - x6).toNat; clear h0 h1 i3 hP go; omega)
    have n1 : n < y := n1
    by_cases cn : n = x6
    · rw [cn]; exact ne
    · rcases i3 with w | w
      · exact w.2 n n0 (by clear h0 h1 hP go w; omega)
      · have := w.1; clear h0 h1 hP go w; omega
theorem J_readRef {k : Int → St → Prop} (hb : b = 2 ∨ b = 515) (hh : half01 h) (ht : 0 ≤ t ∧ t < 24) (K : Tks T n N te so va pl) (C : CTk N so va pl S i) (R : RTk T n te so va pl D i) (H : Hd S b D h t) (f2 : ∀ u, 0 ≤ u → u < t → D 11 (24 * h + u) ≤ 2)
    (h1 : ∀ S' D' r c, CTk N so va pl S' (i + 1) → RTk T n te so va pl D' (i + 1) → RfC S S' b t c r (¬ D 11 (24 * h + r) = 2) → RfR D D' h t c r (¬ D 11 (24 * h + r) = 2) → (0 ≤ r ∧ r < t) → c = D 16 (24 * h + t) → c < 4 → ¬ isRf D h t r → (¬ D 11 (24 * h + r) = 2 → ¬ D 11 (24 * h + t) = 2 ∧ c = 0) → (∀ (P : Int → St → Prop) (k' : St → Prop), RAq D' h t r c P k' → wX8_readRefs_12_b D t (24 * h + t) 1 P k') → k 1 S')
    (h0 : ∀ S' D', FO S D b h S' D' → (∀ k' : St → Prop, k' D' → RKr D h t k') → k 0 S') : wX4_readRef S k := by
  have N4 := K.1.2
  have h01 : 0 ≤ h ∧ h ≤ 1 := by unfold half01 at hh; omega
  have it := isO_t hb ht
  have ib := isO_b hb
  obtain ⟨⟨⟨e3, hD, c1, d3, c12⟩, Hu, ds⟩, dv, Kt⟩ := id H
  have t1 := K.2.2.1 i C.1.1 C.1.2
  have hV := Kt.2.2.2.1.1
  have ext : ∀ (k' : St → Prop), (∀ P : Int → St → Prop, wX8_readRefs_12_b D t (24 * h + t) 1 P (fun S => wX8_readType_286 S t k')) → RKr D h t k' := by
    intro k' hs
    unfold RKr wX8_readRefs_12
    exact wlp_exit (fun P => hs (fun b0 b1 => P (b0, b1)))
  have fo : ∀ S6 S' D' f, 1 ≤ f → (∀ a j, ¬ (a = 1032 ∧ j = 13) → S6 a j = S a j) → FLc S6 S' f (pl i) → FLr D D' f (pl i) → FO S D b h S' D' := fun S6 S' D' f f1 o g g' => FO_mk hb f1 (offFam_rd hb (fun a j w => o a j (by omega))) (offH_0 (fun _ _ _ => rfl)) g g'
  unfold wX4_readRef wX4_readRef_0
  rw [C.2.2.2.2.2.2.1, C.2.2.2.2.2.2.2]
  refine ⟨fun si => ?_, fun si => ?_⟩
  rotate_left
  · obtain ⟨D1, w1, n1⟩ := R_od R t1.2.1
    have met : ¬ D1 0 8 = 0 := by have := msf_pos (so i); rw [w1.1]; omega
    refine C_misf N4 C (fun S1 g1 => ⟨Or.inl rfl, h0 S1 D1 (fo S S1 D1 _ (msf_pos _) (fun _ _ _ => rfl) g1 w1) (fun k' hk => ext k' (fun P => ?_))⟩)
    unfold wX8_readRefs_12_b wX8_goesOn wX8_goesOn_0
    exact ⟨fun z => absurd z (by decide), fun _ => ⟨fun z => absurd R.2.2.2.2.2.2.2 z, fun _ => ⟨fun z => absurd z (by decide), fun _ => R_isS R t1.2.1 (x := 2) (by unfold srtOK; omega) (by decide) (fun w => absurd w si) (fun w => ⟨fun z => absurd rfl z, fun _ => n1 _ (R_286_no met hk)⟩)⟩⟩⟩
  · have d7 := R.2.2.2.2.2.2.1 (Or.inl si)
    have pre : ∀ (P : Int → St → Prop) (k' : St → Prop), wX8_seenType D (va i) t (fun x_8 => (x_8 < 0 → wX8_readRefs_58 D k') ∧ (0 ≤ x_8 → (¬ x_8 = t → wX8_readRefs_74 D t (24 * h + t) x_8 0 0 P k') ∧ (x_8 = t → wX8_readRefs_58 D k'))) → wX8_readRefs_12_b D t (24 * h + t) 1 P k' := by
      intro P k' hk
      unfold wX8_readRefs_12_b wX8_goesOn wX8_goesOn_0
      refine ⟨fun z => absurd z (by decide), fun _ => ⟨fun z => absurd R.2.2.2.2.2.2.2 z, fun _ => ⟨fun z => absurd z (by decide), fun _ => R_isS R t1.2.1 (x := 2) (by unfold srtOK; omega) (by decide) (fun w => ⟨fun _ => ?_, fun z => absurd z (by decide)⟩) (fun w => absurd si w)⟩⟩⟩
      rw [d7]; exact hk
    refine C_osn hb ht H (fun r g S6 e6 => ⟨fun _ x ex => ?_, fun z => ?_⟩) (fun g S6 e6 => ⟨fun z => ?_, fun _ => ?_⟩)
    · have rt : 0 ≤ r ∧ r < t := by have := g.1.1; have := g.2; clear h0 h1 pre ext; omega
      have r24 : 0 ≤ r ∧ r < 24 := by omega
      have fr := f2 r rt.1 rt.2
      have o6 : ∀ a j, ¬ (a = 1032 ∧ j = 13) → S6 a j = S a j := fun a j w => by rw [e6, up_n _ (by omega)]
      have C6 : CTk N so va pl S6 i := C.off (fun a j w => o6 a j (by omega))
      have s13 : S6 1032 13 = r := by rw [e6, up_s]
      have s12 : S6 1032 12 = ty b t := by rw [o6 _ _ (by omega)]; exact c12
      have s9 : S6 (ty b t) 9 = D 16 (24 * h + t) := by rw [o6 _ _ (by unfold ty; omega)]; exact Kt.2.1.1
      have s4 : S6 (ty b t) 4 = D 11 (24 * h + t) := by rw [o6 _ _ (by unfold ty; omega)]; exact Kt.1.2.2.2.2.1
      have rr6 : rR S6 b D h t := rR_E (fun j => o6 _ _ (by unfold ty; omega)) (fun j => o6 _ _ (by unfold ty; omega)) Kt.2.1
      have run4 : ∀ (P : Int → St → Prop) (k' : St → Prop), ((isRf D h t r ∨ (D 11 (24 * h + r) < 2 ∧ (D 11 (24 * h + t) = 2 ∨ 0 < D 16 (24 * h + t)))) → wX8_readRefs_158 D k') → (¬ (isRf D h t r ∨ (D 11 (24 * h + r) < 2 ∧ (D 11 (24 * h + t) = 2 ∨ 0 < D 16 (24 * h + t)))) → wX8_readRefs_168 D t (24 * h + t) r P k') → wX8_readRefs_12_b D t (24 * h + t) 1 P k' := by
        intro P k' a1 a2
        refine pre P k' (R_osn hh ht hD ds (fun r' g' => ?_) (fun g' => absurd g (g' r)))
        rw [seT_one ds g'.1 g.1]
        exact R_74 hh ht r24 hD hV a1 a2
      have bad : (isRf D h t r ∨ (D 11 (24 * h + r) < 2 ∧ (D 11 (24 * h + t) = 2 ∨ 0 < D 16 (24 * h + t)))) → wX4_readRef_101 S6 k := by
        intro w
        obtain ⟨D1, w1, n1⟩ := R_fl (S := D) (f := 4) (p := pl i) R.2.2.2.2.2.2.2
        unfold wX4_readRef_101
        refine C_fl N4 C6 (fun S1 g1 => ⟨Or.inl rfl, h0 S1 D1 (fo S6 S1 D1 _ (by decide) o6 g1 w1) (fun k' hk => ext k' (fun P => run4 P _ (fun _ => ?_) (fun nw => absurd w nw)))⟩)
        unfold wX8_readRefs_158
        rw [R.2.2.2.2.2.1]
        exact n1 _ (R_286_no (by rw [w1.1]; decide) hk)
      have good : ∀ s0, (s0 = 1 ∧ ¬ D 11 (24 * h + r) = 2) ∨ (s0 = 0 ∧ D 11 (24 * h + r) = 2) → ¬ (isRf D h t r ∨ (D 11 (24 * h + r) < 2 ∧ (D 11 (24 * h + t) = 2 ∨ 0 < D 16 (24 * h + t)))) → wX4_readRef_107 S6 s0 k := by
        intro s0 hs nw
        have nw1 : ¬ isRf D h t r := fun w => nw (Or.inl w)
        have nw2 : ¬ D 11 (24 * h + r) = 2 → ¬ D 11 (24 * h + t) = 2 ∧ D 16 (24 * h + t) = 0 := fun w => ⟨fun z => nw (Or.inr ⟨by clear h0 h1 pre ext run4 bad nw1 nw; omega, Or.inl z⟩), by
          by_cases z : 0 < D 16 (24 * h + t)
          · exact absurd (Or.inr ⟨by clear h0 h1 pre ext run4 bad nw1 nw; omega, Or.inr z⟩) nw
          · clear h0 h1 pre ext run4 bad nw1 nw; omega⟩
        unfold wX4_readRef_107
        intro x ex
        rw [s12] at ex
        rw [ex, s9]
        refine ⟨it, fun l4 x5 ex5 => ?_, fun l4 => ?_⟩
        · rw [s12] at ex5
          rw [ex5]
          refine ⟨it, fun x7 ex7 => ?_⟩
          rw [s12] at ex7
          rw [ex7, s9, s13]
          refine ⟨it, ⟨hV.1, l4⟩, fun S7 e7 x11 ex11 => ?_⟩
          have o7 : ∀ a j, ¬ (a = ty b t + 3 ∧ j = D 16 (24 * h + t)) → S7 a j = S6 a j := fun a j w => by rw [e7, up_n _ (by clear h0 h1 pre ext run4 bad nw1 nw2 nw; omega)]
          rw [o7 _ _ (by unfold ty; omega), s12] at ex11
          rw [ex11, o7 _ _ (by omega), s9, w32_eq (by omega) (by omega)]
          refine ⟨it, fun S8 e8 x16 ex16 => ?_⟩
          have o8 : ∀ a j, ¬ (a = ty b t ∧ j = 9) → S8 a j = S7 a j := fun a j w => by rw [e8, up_n _ (by clear h0 h1 pre ext run4 bad nw1 nw2 nw; omega)]
          rw [o8 _ _ (by unfold ty; omega), o7 _ _ (by unfold ty; omega), s12] at ex16
          rw [ex16, o8 _ _ (by omega), o7 _ _ (by omega), o6 _ _ (by unfold ty; omega), o8 1032 13 (by unfold ty; omega), o7 1032 13 (by unfold ty; omega), s13]
          refine ⟨it, fun S9 e9 => ?_⟩
          have o9 : ∀ a j, ¬ (a = ty b t ∧ j = 14) → S9 a j = S8 a j := fun a j w => by rw [e9, up_n _ (by clear h0 h1 pre ext run4 bad nw1 nw2 nw; omega)]
          have oo : ∀ a j, ¬ (a = 1032 ∧ j = 13) → ¬ (a = ty b t + 3 ∧ j = D 16 (24 * h + t)) → ¬ (a = ty b t ∧ (j = 9 ∨ j = 14)) → S9 a j = S a j := fun a j w1 w2 w3 => by rw [o9 _ _ (by clear h0 h1 pre ext run4 bad nw1 nw2 nw; omega), o8 _ _ (by clear h0 h1 pre ext run4 bad nw1 nw2 nw; omega), o7 _ _ w2, o6 _ _ w1]
          -- the reference
          obtain ⟨D1, ed1⟩ : ∃ D1, D1 = up (up D 17 (5 * (24 * h + t) + D 16 (24 * h + t)) r) 16 (24 * h + t) (D 16 (24 * h + t) + 1) := ⟨_, rfl⟩
          have refr : ∀ (v : Int) (D2 : St), D2 = up D1 19 (24 * h + t) v → ((¬ D 11 (24 * h + r) = 2 ∧ v = r) ∨ (D 11 (24 * h + r) = 2 ∧ v = D 19 (24 * h + t))) → ∀ S10, CTk N so va pl S10 (i + 1) → RfC S S10 b t (D 16 (24 * h + t)) r (¬ D 11 (24 * h + r) = 2) → k 1 S10 := by
            intro v D2 ed2 hv S10 C10 w10
            have r2 : RTk T n te so va pl D2 i := R.off (fun a j g => by rw [ed2, up_n _ (by clear h0 h1 pre ext run4 bad nw1 nw2 nw hv; omega), ed1, up_n _ (by clear h0 h1 pre ext run4 bad nw1 nw2 nw hv; omega), up_n _ (by clear h0 h1 pre ext run4 bad nw1 nw2 nw hv; omega)])
            obtain ⟨D3, ⟨r3, o3⟩, n3⟩ := R_nx K C.1 r2 (by omega)
            have e11 : D1 11 (24 * h + r) = D 11 (24 * h + r) := by rw [ed1, up_n _ (by omega), up_n _ (by omega)]
            have e19 : D1 19 (24 * h + t) = D 19 (24 * h + t) := by rw [ed1, up_n _ (by omega), up_n _ (by omega)]
            refine h1 S10 D3 r (D 16 (24 * h + t)) C10 r3 w10 ⟨⟨?_, ?_⟩, fun w => ?_, fun w => ?_, fun a j g1 g2 g3 => ?_⟩ rt rfl l4 nw1 nw2 (fun P k' hk => run4 P k' (fun w => absurd w nw) (fun _ => ?_))
            · rw [o3 _ _ (by omega), ed2, up_n _ (by omega), ed1, up_n _ (by omega), up_s]
            · rw [o3 _ _ (by omega), ed2, up_n _ (by omega), ed1, up_s]
            · rw [o3 _ _ (by omega), ed2, up_s]
              rcases hv with z | z
              · exact z.2
              · exact absurd z.1 w
            · rw [o3 _ _ (by omega), ed2, up_s]
              rcases hv with z | z
              · exact absurd z.1 w
              · exact z.2
            · rw [o3 _ _ g1, ed2, up_n _ (by clear h0 h1 pre ext run4 bad nw1 nw2 nw hv; omega), ed1, up_n _ (by clear h0 h1 pre ext run4 bad nw1 nw2 nw hv; omega), up_n _ (by clear h0 h1 pre ext run4 bad nw1 nw2 nw hv; omega)]
            · have hi : 0 ≤ 24 * h + t ∧ 24 * h + t < 48 := by omega
              have fin : wX8_readRefs_251 D1 t (24 * h + t) r (5 * (24 * h + t) + D 16 (24 * h + t)) (24 * h + t) v P k' := by
                unfold wX8_readRefs_251
                refine ⟨hi, fun A ea => ?_⟩
                rw [ea, ← ed2]
                exact n3 _ hk
              unfold wX8_readRefs_168
              refine ⟨hi, fun n4 => ⟨hi, fun x10 ex10 => ?_⟩, fun z => by omega⟩
              rw [w32_eq (x := 5 * (24 * h + t)) (by omega) (by omega), w32_eq (x := 5 * (24 * h + t) + D 16 (24 * h + t)) (by omega) (by omega)] at ex10
              rw [ex10]
              refine ⟨by omega, fun A ea => ⟨hi, hi, fun B eb => ?_⟩⟩
              have eB : B = D1 := by rw [eb, ea, ed1, up_n _ (by omega), w32_eq (by omega) (by omega)]
              rw [eB]
              unfold wX8_t wX8_t_0
              rw [show D1 0 10 = h by rw [ed1, up_n _ (by omega), up_n _ (by omega)]; exact hD, w32_eq (x := 24 * h) (by omega) (by omega), w32_eq (x := 24 * h + r) (by omega) (by omega)]
              dsimp only
              rw [e11, e19]
              refine ⟨by omega, fun z => ⟨hi, ?_⟩, fun z => ?_⟩
              · rcases hv with w | w
                · omega
                · rw [← w.2]; exact fin
              · rcases hv with w | w
                · rw [w.2] at fin; exact fin
                · omega
          have nine : S9 (ty b t) 9 = D 16 (24 * h + t) + 1 := by rw [o9 _ _ (by omega), e8, up_s]
          have three : S9 (ty b t + 3) (D 16 (24 * h + t)) = r := by rw [o9 _ _ (by omega), o8 _ _ (by omega), e7, up_s]
          have four : S9 (ty b t) 14 = or32 (S (ty b t) 14) (shl32 1 r) := by rw [e9, up_s]
          have s913 : S9 1032 13 = r := by rw [o9 _ _ (by unfold ty; omega), o8 _ _ (by unfold ty; omega), o7 _ _ (by unfold ty; omega)]; exact s13
          have C9 : CTk N so va pl S9 i := C.off (fun a j w => oo a j (by omega) (by unfold ty; omega) (by unfold ty; omega))
          refine ⟨fun z0 => ?_, fun z0 x24 ex24 => ?_⟩
          · have fc : D 11 (24 * h + r) = 2 := by omega
            unfold wX4_readRef_190
            refine C_adv K C9 (by omega) (fun S10 a10 C10 => refr (D 19 (24 * h + t)) _ rfl (Or.inr ⟨fc, rfl⟩) S10 C10 ⟨⟨?_, ?_, ?_, ?_⟩, fun w => absurd fc w, fun _ => ?_, fun a j g1 g2 g3 => ?_⟩)
            · rw [a10 _ _ (by unfold ty; omega)]; exact three
            · rw [a10 _ _ (by unfold ty; omega)]; exact nine
            · rw [a10 _ _ (by unfold ty; omega)]; exact four
            · rw [a10 _ _ (by omega)]; exact s913
            · rw [a10 _ _ (by unfold ty; omega)]; exact oo _ _ (by unfold ty; omega) (by omega) (by omega)
            · rw [a10 _ _ (by omega)]; exact oo _ _ (by omega) g2 (by omega)
          · have fc : ¬ D 11 (24 * h + r) = 2 := by omega
            rw [oo _ _ (by omega) (by unfold ty; omega) (by unfold ty; omega), c12] at ex24
            rw [ex24, s913]
            refine ⟨it, fun S11 e11 => ?_⟩
            have C11 : CTk N so va pl S11 i := C9.off (fun a j w => by rw [e11, up_n _ (by unfold ty; omega)])
            unfold wX4_readRef_190
            refine C_adv K C11 (by omega) (fun S10 a10 C10 => refr r _ rfl (Or.inl ⟨fc, rfl⟩) S10 C10 ⟨⟨?_, ?_, ?_, ?_⟩, fun w => ?_, fun w => absurd fc w, fun a j g1 g2 g3 => ?_⟩)
            · rw [a10 _ _ (by unfold ty; omega), e11, up_n _ (by omega)]; exact three
            · rw [a10 _ _ (by unfold ty; omega), e11, up_n _ (by omega)]; exact nine
            · rw [a10 _ _ (by unfold ty; omega), e11, up_n _ (by omega)]; exact four
            · rw [a10 _ _ (by omega), e11, up_n _ (by unfold ty; omega)]; exact s913
            · rw [a10 _ _ (by unfold ty; omega), e11, up_s]
            · rw [a10 _ _ (by omega), e11, up_n _ (by omega)]; exact oo _ _ (by omega) g2 (by omega)
        · obtain ⟨D1, w1, n1⟩ := R_fl (S := D) (f := 6) (p := pl i) R.2.2.2.2.2.2.2
          refine C_fl N4 C6 (fun S1 g1 => ⟨Or.inl rfl, h0 S1 D1 (fo S6 S1 D1 _ (by decide) o6 g1 w1) (fun k' hk => ext k' (fun P => run4 P _ (fun w => absurd w nw) (fun _ => ?_)))⟩)
          unfold wX8_readRefs_168
          rw [R.2.2.2.2.2.1]
          exact ⟨by omega, fun z => by omega, fun _ => n1 _ (R_286_no (by rw [w1.1]; decide) hk)⟩
      have s62 : ∀ s0, (s0 = 1 ∧ ¬ D 11 (24 * h + r) = 2) ∨ (s0 = 0 ∧ D 11 (24 * h + r) = 2) → wX4_readRef_62 S6 s0 k := by
        intro s0 hs
        unfold wX4_readRef_62
        intro x ex
        rw [s12] at ex
        rw [ex, s13]
        refine ⟨it, C_hr hV rr6 (fun w => ⟨fun _ => bad (Or.inl w), fun z => absurd z (by decide)⟩) (fun w => ⟨fun z => absurd rfl z, fun _ => ⟨fun z0 => good s0 hs (fun q => ?_), fun z0 x6 ex6 => ?_⟩⟩)⟩
        · rcases q with q | q
          · exact w q
          · have := q.1; clear h0 h1 pre ext run4 bad good w q; omega
        · rw [s12] at ex6
          rw [ex6]
          refine ⟨it, ?_⟩
          unfold wX6_isFace wX6_isFace_0
          rw [s4]
          have fc : D 11 (24 * h + r) < 2 := by clear h0 h1 pre ext run4 bad good w; omega
          refine ⟨fun nf => ⟨fun z => absurd rfl z, fun _ x9 ex9 => ?_⟩, fun f => ⟨fun _ => bad (Or.inr ⟨fc, Or.inl f⟩), fun z => absurd z (by decide)⟩⟩
          rw [s12] at ex9
          rw [ex9, s9]
          refine ⟨it, fun l0 => good s0 hs (fun q => ?_), fun l0 => bad (Or.inr ⟨fc, Or.inr l0⟩)⟩
          rcases q with q | q
          · exact w q
          · rcases q.2 with q | q
            · exact nf q
            · clear h0 h1 pre ext run4 bad good w; omega
      rw [o6 _ _ (by omega), e3] at ex
      rw [ex, s13]
      refine ⟨ib, r24, fun y ey => ?_⟩
      have ey : y = ty b r := ey
      unfold wX6_isFace wX6_isFace_0
      rw [ey, o6 _ _ (by unfold ty; omega), (Hu r rt.1 rt.2).1.2.2.2.2.1]
      exact ⟨fun nf => ⟨fun z => absurd rfl z, fun _ => s62 1 (Or.inl ⟨rfl, nf⟩)⟩, fun f => ⟨fun _ => s62 0 (Or.inr ⟨rfl, f⟩), fun z => absurd z (by decide)⟩⟩
    · rw [e6, up_s] at z
      have := g.1.1.1; clear h0 h1 pre ext; omega
    · rw [e6, up_s] at z
      exact absurd rfl z
    · have o6 : ∀ a j, ¬ (a = 1032 ∧ j = 13) → S6 a j = S a j := fun a j w => by rw [e6, up_n _ (by omega)]
      have C6 : CTk N so va pl S6 i := C.off (fun a j w => o6 a j (by omega))
      obtain ⟨D1, w1, n1⟩ := R_fl (S := D) (f := 3) (p := pl i) R.2.2.2.2.2.2.2
      refine C_fl N4 C6 (fun S1 g1 => ⟨Or.inl rfl, h0 S1 D1 (fo S6 S1 D1 _ (by decide) o6 g1 w1) (fun k' hk => ext k' (fun P => pre P _ (R_osn hh ht hD ds (fun r' g' => absurd g' (g r')) (fun _ => ?_))))⟩)
      unfold wX8_readRefs_58
      rw [R.2.2.2.2.2.1]
      exact n1 _ (R_286_no (by rw [w1.1]; decide) hk)
end Ref
