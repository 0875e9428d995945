/-! pure: reading: a type up to its NAME, both together -/
def TN (S S' SR R' : St) (b h t f M : Int) : Prop :=
  ((S' (ty b t) 1 = R' 8 (24 * h + t) ∧ S' (ty b t) 2 = R' 9 (24 * h + t) ∧ S' (ty b t) 3 = R' 10 (24 * h + t)) ∧ (S' (ty b t) 4 = f ∧ R' 11 (24 * h + t) = f) ∧ (S' (ty b t) 5 = S (ty b t) 0 ∧ R' 12 (24 * h + t) = t) ∧ S' (ty b t) 6 = 0 ∧ R' 13 (24 * h + t) = 0) ∧
  ((S' (ty b t) 9 = 0 ∧ R' 16 (24 * h + t) = 0 ∧ S' (ty b t) 11 = -1 ∧ R' 19 (24 * h + t) = -13) ∧ (S' (ty b t) 12 = 0 ∧ S' (ty b t) 14 = 0 ∧ S' (ty b t) 17 = 0 ∧ S' (ty b t) 18 = 0 ∧ S' (ty b t) 19 = 0) ∧ S' (ty b t) 16 = M ∧ R' 24 (24 * h + t) = M ∧ R' 25 (24 * h + t) = 0) ∧
  ¬ dup SR h t (R' 8 (24 * h + t)) ∧ (S' b 1 = t + 1 ∧ S' 1032 11 = 1 ∧ S' 1032 12 = ty b t) ∧
  (∀ a x, ¬ (a = 1032 ∧ ((4 ≤ x ∧ x ≤ 6) ∨ x = 11 ∨ x = 12)) → ¬ (a = b ∧ x = 1) → ¬ (a = ty b t ∧ 1 ≤ x) → S' a x = S a x) ∧
  ∀ a x, ¬ (a = 0 ∧ 4 ≤ x ∧ x ≤ 7) → ¬ (((8 ≤ a ∧ a ≤ 13) ∨ a = 16 ∨ a = 19 ∨ a = 24 ∨ a = 25) ∧ x = 24 * h + t) → R' a x = SR a x
section RType
variable {T te so va pl : Int → Int} {n N i b h t M : Int} {S SR : St}
theorem J_readType {k : Int → St → Prop} (hb : b = 2 ∨ b = 515) (hh : half01 h) (ht : 0 ≤ t ∧ t ≤ 24) (K : Tks T n N te so va pl) (C : CTk N so va pl S i) (R : RTk T n te so va pl SR i) (si : so i = 202 ∨ so i = 203 ∨ so i = 210) (e3 : S 1032 3 = b) (hD : SR 0 10 = h) (c1 : S b 1 = t) (d3 : SR 3 h = t) (nm : ∀ u, 0 ≤ u → u < t → S (ty b u) 1 = SR 8 (24 * h + u)) (pk : S 1032 9 = SR 0 46 ∧ S 1032 10 = SR 0 47) (mm : S b 3 = M ∧ SR 4 h = M)
    (h1 : ∀ S' R' j f, t < 24 → i < j → (0 ≤ f ∧ f ≤ 2) → CTk N so va pl S' j → RTk T n te so va pl R' j → TN S S' SR R' b h t f M → (∀ k : St → Prop, RKn R' t f k → wX8_readType SR k) → k 1 S')
    (h0 : ∀ S' SR', FO S SR b h S' SR' → (∀ k : St → Prop, k SR' → wX8_readType SR k) → k 0 S') : wX4_readType S k := by
  have N4 := K.1.2
  have h01 : 0 ≤ h ∧ h ≤ 1 := by unfold half01 at hh; omega
  have ib := isO_b hb
  have t1 := K.2.2.1 i C.1.1 C.1.2
  have c7 := C.2.2.2.2.2.2.1
  unfold wX4_readType wX4_readType_0
  intro x ex
  rw [e3] at ex
  rw [ex, c1]
  refine ⟨ib, fun tl y ey => ?_, fun tg => ?_⟩
  rotate_left
  · have te24 : t = 24 := by omega
    obtain ⟨R', g, r⟩ := R_fl (S := SR) (f := 6) (p := pl i) R.2.2.2.2.2.2.2
    refine C_fl N4 C (fun S' g' => ⟨Or.inl rfl, h0 S' R' (FO_mk hb (S1 := S) (R1 := SR) (by decide) (offFam_rd hb (fun _ _ _ => rfl)) (offH_0 (fun _ _ _ => rfl)) g' g) (fun k' hk => ?_)⟩)
    unfold wX8_readType wX8_readType_0
    rw [hD]
    refine ⟨by omega, fun x ex => ?_⟩
    rw [d3] at ex
    rw [ex]
    exact ⟨fun q => absurd te24 q, fun _ => by rw [R.2.2.2.2.2.1]; exact r _ hk⟩
  · have ht' : 0 ≤ t ∧ t < 24 := ⟨ht.1, tl⟩
    rw [e3] at ey
    rw [ey]
    refine ⟨ib, fun x7 ex7 => ?_⟩
    rw [e3] at ex7
    rw [ex7, c1]
    refine ⟨ib, ht', fun x9 ex9 S1 e1 => ?_⟩
    have ex9 : x9 = ty b t := ex9
    rw [ex9] at e1
    have C1 : CTk N so va pl S1 i := C.off (fun a j g => by rw [e1, up_n _ (by omega)])
    have s1 : ∀ a j, ¬ (a = 1032 ∧ j = 12) → S1 a j = S a j := fun a j g => by rw [e1, up_n _ (by omega)]
    have s12 : S1 1032 12 = ty b t := by rw [e1, up_s]
    have pre : ∀ (s0 : Int), (so i = 210 → s0 = 1) → (¬ so i = 210 → s0 = 0) → ∀ k' : St → Prop, wX8_readType_47 SR t (24 * h + t) s0 k' → wX8_readType SR k' := by
      intro s0 g1 g2 k' hk
      unfold wX8_readType wX8_readType_0
      rw [hD]
      refine ⟨by omega, fun x ex => ?_⟩
      rw [d3] at ex
      rw [ex]
      refine ⟨fun _ => ?_, fun q => by omega⟩
      unfold wX8_t wX8_t_0
      rw [hD, w32_eq (x := 24 * h) (by omega) (by omega), w32_eq (x := 24 * h + t) (by omega) (by omega)]
      refine R_isS R t1.2.1 (x := 210) (by unfold srtOK; omega) (by decide) (fun w => ⟨fun q => absurd q (by decide), fun _ => ?_⟩) (fun w => ⟨fun _ => ?_, fun q => absurd rfl q⟩)
      · rw [g1 w] at hk; exact hk
      · rw [g2 w] at hk; exact hk
    have core : ∀ f, (f = 2 ∧ so i = 203) ∨ (f = 1 ∧ so i = 210) ∨ (f = 0 ∧ so i = 202) → wX4_readType_67 S1 f k := by
      intro f hf
      unfold wX4_readType_67
      intro x ex
      rw [s12] at ex
      rw [ex]
      refine ⟨isO_t hb ht', fun y ey => ?_⟩
      rw [s1 _ _ (by omega), e3] at ey
      rw [ey]
      refine ⟨ib, C_clear (fun S2 cl => ?_)⟩
      have C2 : CTk N so va pl S2 i := C1.off (fun a j g => cl.2.2 a j (by unfold ty; omega))
      obtain ⟨R1, ⟨r1, o1⟩, n1⟩ := R_nx K C2.1 R (by omega)
      have nmst : ∀ Sx Rx jx, i < jx → CTk N so va pl Sx jx → RTk T n te so va pl Rx jx → (∀ a x, ¬ (a = 1032 ∧ 4 ≤ x ∧ x ≤ 6) → Sx a x = S2 a x) → offN SR Rx → (∀ k' : St → Prop, nmR Rx t (24 * h + t) f k' → wX8_readType SR k') → wX4_readType_112 Sx k := by
        intro Sx Rx jx ij Cx rx ox orx run
        unfold wX4_readType_112
        have sx : ∀ a x, ¬ (a = 1032 ∧ ((4 ≤ x ∧ x ≤ 6) ∨ x = 12)) → ¬ (a = ty b t ∧ 1 ≤ x) → Sx a x = S a x := fun a x g1 g2 => by rw [ox a x (by omega), cl.2.2 a x g2, s1 a x (by omega)]
        refine J_tname (f := f) hb hh ht' K Cx rx ?_ ?_ ?_ ?_ (fun u u0 u1 => ?_) (fun S' R' D' nd C' r' q1 q2 q3 q4 q5 q6 q7 => ⟨Or.inr rfl, ?_⟩) (fun S' R' fl p p1 g g' q => ⟨Or.inl rfl, ?_⟩)
        · rw [sx _ _ (by omega) (by unfold ty; omega)]; exact e3
        · rw [ox _ _ (by omega), cl.2.2 _ _ (by unfold ty; omega)]; exact s12
        · rw [sx _ _ (by omega) (by unfold ty; omega)]; exact c1
        · rw [orx _ _ (by omega)]; exact hD
        · rw [sx _ _ (by unfold ty; omega) (by unfold ty; omega), orx _ _ (by omega)]; exact nm u u0 u1
        · have sr : ∀ a, ¬ a = 0 → ∀ x, R' a x = D' a x := fun a g x => q6 a x (by omega)
          have fx : ∀ j, ¬ j = 1 → S' (ty b t) j = S2 (ty b t) j := fun j g => by rw [q4 _ _ (by unfold ty; omega) (by unfold ty; omega) (by omega), ox _ _ (by unfold ty; omega)]
          obtain ⟨⟨w1, w2, w3, w4, w5, w6⟩, ⟨w7, w8, w9, w10⟩, w11⟩ := q5
          obtain ⟨⟨l1, l2, l3, l4, l5, l6, l7⟩, ⟨l8, l9, l10, l11, l12, l13, l14⟩, l15⟩ := cl
          refine h1 S' R' (jx + 1) f tl (by omega) (by omega) C' r' ⟨⟨⟨?_, ?_, ?_⟩, ⟨?_, ?_⟩, ⟨?_, ?_⟩, ?_, ?_⟩, ⟨⟨?_, ?_, ?_, ?_⟩, ⟨?_, ?_, ?_, ?_, ?_⟩, ?_, ?_, ?_⟩, ?_, ⟨q2, q3, ?_⟩, fun a x g1 g2 g3 => ?_, fun a x g1 g2 => ?_⟩ (fun k' hk => run k' (q7 k' hk))
          · rw [q1, sr 8 (by decide), w1]
          · rw [fx 2 (by decide), l2, sr 9 (by decide), w2, orx _ _ (by omega), s1 _ _ (by omega)]; exact pk.1
          · rw [fx 3 (by decide), l3, sr 10 (by decide), w3, orx _ _ (by omega), s1 _ _ (by omega)]; exact pk.2
          · rw [fx 4 (by decide)]; exact l1
          · rw [sr 11 (by decide)]; exact w4
          · rw [fx 5 (by decide), l6, s1 _ _ (by unfold ty; omega)]
          · rw [sr 12 (by decide)]; exact w5
          · rw [fx 6 (by decide)]; exact l7
          · rw [sr 13 (by decide)]; exact w6
          · rw [fx 9 (by decide)]; exact l8
          · rw [sr 16 (by decide)]; exact w7
          · rw [fx 11 (by decide)]; exact l9
          · rw [sr 19 (by decide)]; exact w8
          · rw [fx 12 (by decide)]; exact l10
          · rw [fx 14 (by decide)]; exact l11
          · rw [fx 17 (by decide)]; exact l12
          · rw [fx 18 (by decide)]; exact l13
          · rw [fx 19 (by decide)]; exact l14
          · rw [fx 16 (by decide), l4, s1 _ _ (by omega)]; exact mm.1
          · rw [sr 24 (by decide), w9, orx _ _ (by omega)]; exact mm.2
          · rw [sr 25 (by decide)]; exact w10
          · rw [sr 8 (by decide), w1]
            intro z
            apply nd
            obtain ⟨u, u0, u1⟩ := z
            exact ⟨u, u0, by rw [orx _ _ (by omega)]; exact u1⟩
          · rw [q4 _ _ (by omega) (by omega) (by unfold ty; omega), ox _ _ (by omega), l15 _ _ (by unfold ty; omega)]; exact s12
          · rw [q4 a x (by omega) g2 (by omega)]; exact sx a x (by omega) g3
          · rw [q6 a x g1, w11 a x g2]; exact orx a x g1
        · refine h0 S' R' (FO_mk hb p1 (S1 := Sx) (R1 := Rx) ⟨fun a x g1 g2 => ?_, fun u u0 u1 => ?_⟩ (offH_N orx) g g') (fun k' hk => run k' (q k' hk))
          · exact sx a x (by omega) (by unfold ty; omega)
          · exact sx _ _ (by unfold ty; omega) (by omega)
      refine C_adv K C2 (by omega) (fun S3 a3 C3 => ⟨fun nf => ?_, fun f1 => ?_⟩)
      · refine nmst S3 R1 (i + 1) (by omega) C3 r1 a3 o1 (fun k' hk => pre 0 (fun w => by omega) (fun _ => rfl) k' ?_)
        unfold wX8_readType_47 wX8_readType_71 wX8_readType_85
        refine ⟨fun _ => R_isS R t1.2.1 (x := 203) (by unfold srtOK; omega) (by decide) (fun w => ⟨fun q => absurd q (by decide), fun _ => n1 _ ?_⟩) (fun w => ⟨fun _ => n1 _ ?_, fun q => absurd rfl q⟩), fun q => absurd q (by decide)⟩
        · have : f = 2 := by omega
          rw [this] at hk; exact hk
        · have : f = 0 := by omega
          rw [this] at hk; exact hk
      · have si' : so i = 210 := by omega
        have t2 := K.2.2.1 (i + 1) C3.1.1 C3.1.2
        have q47 : ∀ k' : St → Prop, wX8_is R1 12 (fun x_5 => (¬ x_5 = 0 → wX8_readType_71 R1 t (24 * h + t) 1 k') ∧ (x_5 = 0 → wX8_odd R1 (fun S_7 => k' S_7))) → wX8_readType SR k' := by
          intro k' hk
          refine pre 1 (fun _ => rfl) (fun w => absurd si' w) k' ?_
          unfold wX8_readType_47
          exact ⟨fun q => absurd rfl q, fun _ => n1 _ hk⟩
        unfold wX4_take wX4_take_0
        rw [C3.2.2.2.2.2.2.1]
        refine ⟨fun z => ?_, fun z => ?_⟩
        · obtain ⟨R2, ⟨r2, o2⟩, n2⟩ := R_nx K C3.1 r1 (by omega)
          refine C_adv K C3 (by omega) (fun S4 a4 C4 => ⟨fun _ => ?_, fun q => absurd q (by decide)⟩)
          refine nmst S4 R2 (i + 1 + 1) (by omega) C4 r2 (fun a x g => (a4 a x g).trans (a3 a x g)) (fun a x g => (o2 a x g).trans (o1 a x g)) (fun k' hk => q47 k' ?_)
          refine R_isS r1 t2.2.1 (x := 202) (by unfold srtOK; omega) (by decide) (fun w => ⟨fun _ => ?_, fun q => absurd q (by decide)⟩) (fun w => absurd z w)
          unfold wX8_readType_71 wX8_readType_85
          refine R_isS r1 t2.2.1 (x := 203) (by unfold srtOK; omega) (by decide) (fun w => by omega) (fun w => ⟨fun _ => n2 _ ?_, fun q => absurd rfl q⟩)
          rw [f1] at hk; exact hk
        · obtain ⟨R2, f2, n2⟩ := R_od r1 t2.2.1
          refine C_misf N4 C3 (fun S4 g4 => ⟨Or.inl rfl, fun q => absurd rfl q, fun _ => h0 S4 R2 (FO_mk hb (msf_pos _) (S1 := S3) (R1 := R1) ⟨fun a x u1 u2 => ?_, fun u u0 u1 => ?_⟩ (offH_N o1) g4 f2) (fun k' hk => q47 k' ?_)⟩)
          · rw [a3 _ _ (by omega), cl.2.2 _ _ (by unfold ty; omega), s1 _ _ (by omega)]
          · rw [a3 _ _ (by unfold ty; omega), cl.2.2 _ _ (by omega), s1 _ _ (by unfold ty; omega)]
          · exact R_isS r1 t2.2.1 (x := 202) (by unfold srtOK; omega) (by decide) (fun w => absurd w z) (fun w => ⟨fun q => absurd rfl q, fun _ => n2 _ hk⟩)
    rw [C1.2.2.2.2.2.2.1]
    exact ⟨fun z => ⟨fun z2 => core 0 (by omega), fun z2 => core 1 (by omega)⟩, fun z => core 2 (by omega)⟩
end RType
