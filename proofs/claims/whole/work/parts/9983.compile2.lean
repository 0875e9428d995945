/-! pure: compile, both together -/
section Comp2
variable {h h' n nm nb : Int} {D D' SC SR : St}
theorem AgR_half (hh : half01 h) (e' : h' = 1 - h) (hn : n ≤ 24) (hm : nm ≤ 120) (hb : nb ≤ 2880) (o : ∀ a j, 3 ≤ a → a ≤ 36 → ¬ inH h' a j → D' a j = D a j) : AgR D D' h n nm nb ∧ D' 3 h = D 3 h ∧ D' 4 h = D 4 h ∧ D' 5 h = D 5 h ∧ D' 6 h = D 6 h := by
  have h01 : 0 ≤ h ∧ h ≤ 1 := by unfold half01 at hh; omega
  clear hh
  refine ⟨⟨fun a u ha u0 u1 => o _ _ (by omega) (by omega) (fun w => by unfold inH at w; rcases w with w | w | w | w | w | w | w | w | w | w | w | w | w <;> omega), fun a u k ha u0 u1 k0 k1 => o _ _ (by omega) (by omega) (fun w => by unfold inH at w; rcases w with w | w | w | w | w | w | w | w | w | w | w | w | w <;> omega), fun u i u0 u1 i0 i1 => o _ _ (by omega) (by omega) (fun w => by unfold inH at w; rcases w with w | w | w | w | w | w | w | w | w | w | w | w | w <;> omega), fun a u x ha u0 u1 x0 x1 => o _ _ (by omega) (by omega) (fun w => by unfold inH at w; rcases w with w | w | w | w | w | w | w | w | w | w | w | w | w <;> omega), fun u x k u0 u1 x0 x1 k0 k1 => o _ _ (by omega) (by omega) (fun w => by unfold inH at w; rcases w with w | w | w | w | w | w | w | w | w | w | w | w | w <;> omega), fun a x g1 g2 x0 x1 => o _ _ (by omega) (by omega) (fun w => by unfold inH at w; rcases w with w | w | w | w | w | w | w | w | w | w | w | w | w <;> omega), fun x z x0 x1 z0 z2 => o _ _ (by omega) (by omega) (fun w => by unfold inH at w; rcases w with w | w | w | w | w | w | w | w | w | w | w | w | w <;> omega), fun x z x0 x1 z0 z1 => o _ _ (by omega) (by omega) (fun w => by unfold inH at w; rcases w with w | w | w | w | w | w | w | w | w | w | w | w | w <;> omega), fun a i ha i0 i1 => o _ _ (by omega) (by omega) (fun w => by unfold inH at w; rcases w with w | w | w | w | w | w | w | w | w | w | w | w | w <;> omega)⟩, ?_, ?_, ?_, ?_⟩
  · exact o _ _ (by omega) (by omega) (fun w => by unfold inH at w; rcases w with w | w | w | w | w | w | w | w | w | w | w | w | w <;> omega)
  · exact o _ _ (by omega) (by omega) (fun w => by unfold inH at w; rcases w with w | w | w | w | w | w | w | w | w | w | w | w | w <;> omega)
  · exact o _ _ (by omega) (by omega) (fun w => by unfold inH at w; rcases w with w | w | w | w | w | w | w | w | w | w | w | w | w <;> omega)
  · exact o _ _ (by omega) (by omega) (fun w => by unfold inH at w; rcases w with w | w | w | w | w | w | w | w | w | w | w | w | w <;> omega)
theorem inH_no {h a j : Int} (g : (a = 0 ∧ (j < 4 ∨ (10 < j ∧ j < 46) ∨ 48 < j)) ∨ a = 1 ∨ a = 2) : ¬ inH h a j := by
  intro w
  unfold inH at w
  rcases w with w | w | w | w | w | w | w | w | w | w | w | w | w <;> omega
theorem J_compile (s : Sim SC SR) : wX7_compile SC (fun r SC' => wX8_compile SR (fun r' SR' => r = r' ∧ Sim SC' SR')) := by
  obtain ⟨E, D, b, h, s1, s2, s3, P, R, K, s4, s5, s6, s7, s8⟩ := s
  obtain ⟨P1, P2, P3, P4, P5, P6⟩ := P
  obtain ⟨R1, R2, R3, R4⟩ := R
  have h01 : 0 ≤ h ∧ h ≤ 1 := by unfold half01 at P4; omega
  obtain ⟨b', hb', sb5, bb⟩ : ∃ b' : Int, (b' = 2 ∨ b' = 515) ∧ SC 0 5 = b' ∧ ((b = 2 ∧ b' = 515) ∨ (b = 515 ∧ b' = 2)) := by
    rcases s4 with w | w
    · exact ⟨515, Or.inr rfl, w.2, Or.inl ⟨w.1, rfl⟩⟩
    · exact ⟨2, Or.inl rfl, w.2, Or.inr ⟨w.1, rfl⟩⟩
  have hh' : half01 (1 - h) := by unfold half01; omega
  have h'01 : 0 ≤ 1 - h ∧ 1 - h ≤ 1 := by omega
  obtain ⟨n, en⟩ : ∃ n, SR 0 1 = n := ⟨_, rfl⟩
  obtain ⟨t1, t2, t3⟩ := s1
  rw [en] at t1 t2 t3
  obtain ⟨D8, c8, run8⟩ := R_cstart (h := h) (h' := 1 - h) R2 R3 rfl
  obtain ⟨⟨q1, q2, q3, q4, q5, q6, q7, q8, q9⟩, q10⟩ := c8
  have le : LE33 SR := fun j => by rw [R1 33 j (by decide) (by decide)]; exact s8.1 j
  unfold wX7_compile wX7_compile_0
  rw [t1]
  refine C_scan t2 (fun j j0 j1 => by rw [t3 j j0 j1]; exact s7 j j0 (by rw [en]; exact j1)) (fun S4 te N oS cN N1 N2 te0 tk end_ => ?_)
  intro S6 e6 x8 ex8
  have o6 : ∀ a j, ¬ (a = 0 ∧ j = 1) → S6 a j = S4 a j := fun a j g => by rw [e6, up_n _ (by omega)]
  have o46 : ∀ a j, ¬ (a = 0 ∧ j = 1) → a < 1028 ∨ 1031 < a → S6 a j = SC a j := fun a j g g2 => by rw [o6 a j g]; exact oS a j g2
  rw [o46 _ _ (by omega) (by omega), sb5] at ex8
  rw [ex8]
  -- the tokens
  have Kt : Tks (SR 1) n N te (S4 1029) (S4 1030) (S4 1031) := ⟨⟨N1, N2⟩, t2.2, fun j j0 j1 => ⟨Tok_cong (fun i i0 i1 => (t3 i i0 i1).symm) (tk j j0 j1).2.2 (tk j j0 j1).1, (tk j j0 j1).2⟩, end_⟩
  have w8 : wds D8 := fun i hi => by rw [q10 _ _ (by omega) (by omega)]; exact s6 i hi
  have d81 : D8 1 = SR 1 := funext (fun j => q10 _ _ (by omega) (by omega))
  have k0 := Kt.2.2.1 0 (by omega) (by omega)
  obtain ⟨D9, r4, r5, r6, r7, oN, nx⟩ := R_next (S := D8) (p := te 0) (n := n) (by rw [q10 _ _ (by omega) (by omega)]; exact en) t2.2 w8 (by rw [te0]; exact q8) k0.2.2 (by rw [d81]; exact k0.1)
  have o9 : ∀ a j, ¬ (a = 0 ∧ ((4 ≤ j ∧ j ≤ 8) ∨ j = 10 ∨ j = 46 ∨ j = 47)) → ¬ ((3 ≤ a ∧ a ≤ 6) ∧ j = 1 - h) → D9 a j = SR a j := fun a j g1 g2 => by rw [oN a j (by omega)]; exact q10 a j (by omega) g2
  have RT : RTk (SR 1) n te (S4 1029) (S4 1030) (S4 1031) D9 0 := by
    refine ⟨funext (fun j => o9 _ _ (by omega) (by omega)), ?_, fun i hi => ?_, r4, r5, r6, fun z => r7 ?_, ?_⟩
    · rw [o9 _ _ (by omega) (by omega)]; exact en
    · rw [o9 _ _ (by omega) (by omega)]; exact s6 i hi
    · rcases z with z | z
      · rw [z]; exact Or.inl (by decide)
      · rw [z]; exact Or.inr (by decide)
    · rw [oN _ _ (by omega)]; exact q9
  have le9 : LE33 D9 := fun j => by rw [o9 _ _ (by omega) (by omega)]; exact le j
  -- the class before the loop
  refine ⟨isO_b hb', ?_⟩
  unfold wX4_read wX4_read_0
  intro S7 e7 x2 ex2
  rw [e7, up_s] at ex2
  rw [ex2]
  refine ⟨isO_b hb', C_fclear (fun S8 f1 f2 f3 => C_start (fun S10 g1 g2 => ?_))⟩
  have o8 : ∀ a j, ¬ (a = b' ∧ (j = 1 ∨ j = 3 ∨ j = 7 ∨ j = 8)) → ¬ a = b' + 3 → ¬ (a = 1032 ∧ j = 3) → S8 a j = S6 a j := fun a j x y z => by rw [f3 a j x y, e7, up_n _ (by omega)]
  have o10 : ∀ a j, ¬ (a = b' ∧ (j = 1 ∨ j = 3 ∨ j = 7 ∨ j = 8)) → ¬ a = b' + 3 → ¬ (a = 1032 ∧ 3 ≤ j ∧ j ≤ 11) → S10 a j = S6 a j := fun a j x y z => by rw [g2 a j (by omega)]; exact o8 a j x y (by omega)
  have e3 : S10 1032 3 = b' := by rw [g2 _ _ (by omega), f3 _ _ (by omega) (by omega), e7, up_s]
  have fx : ∀ j, (j = 1 ∨ j = 3 ∨ j = 7 ∨ j = 8) → S10 b' j = 0 := fun j g => by
    rw [g2 _ _ (by omega)]
    rcases g with g | g | g | g
    · rw [g]; exact f1.1
    · rw [g]; exact f1.2.1
    · rw [g]; exact f1.2.2.1
    · rw [g]; exact f1.2.2.2
  have CT : CTk N (S4 1029) (S4 1030) (S4 1031) S10 0 := by
    have row : ∀ a j, 1028 ≤ a → a ≤ 1031 → S10 a j = S4 a j := fun a j x y => by rw [o10 _ _ (by omega) (by omega) (by omega), o6 _ _ (by omega)]
    refine ⟨⟨Int.le_refl _, by omega⟩, ?_, funext (fun j => row _ _ (by omega) (by omega)), funext (fun j => row _ _ (by omega) (by omega)), funext (fun j => row _ _ (by omega) (by omega)), g1.1, ?_, ?_⟩
    · rw [row _ _ (by omega) (by omega)]; exact cN
    · rw [g1.2.1, o8 _ _ (by omega) (by omega) (by omega), o6 _ _ (by omega)]
    · rw [g1.2.2.1, o8 _ _ (by omega) (by omega) (by omega), o6 _ _ (by omega)]
  have nn : nmb S6 b' := fun u u0 u1 => by
    rw [o46 _ _ (by unfold ty; omega) (by unfold ty; omega)]
    rcases hb' with w | w
    · rw [w]; exact (s5 u u0 u1).1
    · rw [w]; exact (s5 u u0 u1).2
  have fam : offFam S6 S10 b' := ⟨fun a j x y => o10 a j (by omega) (by omega) (by omega), fun u u0 u1 => o10 _ _ (by unfold ty; omega) (by unfold ty; omega) (by unfold ty; omega)⟩
  have Bt0 : Bt S10 b' D9 (1 - h) 0 0 0 := by
    refine ⟨⟨⟨e3, ?_, fx 1 (by omega), ?_⟩, by decide, by decide⟩, fun u v u0 u1 u2 => by omega, ⟨fun u u0 u1 => by omega, fun m m0 m1 => by omega, fun i i0 i1 => by omega, ⟨by decide, by decide⟩, fun o q o0 o1 => by omega, fun o q o0 o1 => by omega, fun o q o0 o1 => by omega, fun m q m0 m1 q0 q1 _ => ?_⟩, ⟨fun m m0 m1 => by omega, fun m q m0 m1 => by omega, fun q q0 q1 => by omega⟩, ⟨⟨fx 3 (by omega), fx 7 (by omega)⟩, ?_, ?_⟩, ⟨by decide, by decide⟩, le9⟩
    · rw [oN _ _ (by omega)]; exact q1
    · rw [oN _ _ (by omega)]; exact q2
    · rw [hasO_b ⟨m0, m1⟩ ⟨q0, q1⟩, g2 _ _ (by omega), f2 _ (by omega) (by omega)]
      exact bit6_0 ⟨q0, q1⟩
    · rw [oN _ _ (by omega)]; exact q3
    · rw [oN _ _ (by omega)]; exact q4
  have Pq0 : Pq S10 b' D9 (1 - h) 0 := by
    refine ⟨⟨by decide, fx 8 (by omega), ?_, fun x x0 x1 => by omega, fun x y x0 x1 x2 => by omega⟩, ?_, ?_⟩
    · rw [oN _ _ (by omega)]; exact q5
    · rw [g1.2.2.2.2.2.1, oN _ _ (by omega), q6]
    · rw [g1.2.2.2.2.2.2.1, oN _ _ (by omega), q7]
  have L : LpI (SR 1) n N te (S4 1029) (S4 1030) (S4 1031) b' (1 - h) S6 D9 0 S10 D9 := ⟨CT, RT, ⟨0, Pq0, by rw [te0]; decide⟩, fam, ⟨fun _ _ _ => rfl, fun w => w⟩, g1.2.2.2.1, Or.inl ⟨g1.2.2.2.2.2.2.2, ⟨0, 0, 0, Bt0⟩, fun _ w => w⟩⟩
  have runc : ∀ (D' : St) (k : Int → St → Prop), (∀ k : Int → St → Prop, wX8_compile_161 D' k → wX8_compile_74 D9 k) → wX8_compile_161 D' k → wX8_compile SR k := fun D' k hr hk => run8 k (nx _ (hr k hk))
  have b13 : b = 2 ∨ b = 515 := P3
  clear s4
  refine J_loop hb' hh' Kt nn (fun S' D' B Pp fo ho e7' e8' run => ?_) (fun S' D' f run => ?_) L
  · -- the text is read
    obtain ⟨t, M, base, B⟩ := B
    obtain ⟨np, Pp⟩ := Pp
    obtain ⟨rel, oka, okk, exd⟩ := Bt_Rel hh' B Pp
    intro S12 e12
    have c0 : ∀ j, ¬ j = 1 → ¬ j = 2 → S12 0 j = SC 0 j := fun j z1 z2 => by rw [e12, up_n _ (by omega), fo.1 _ _ (by omega) (by omega), o46 _ _ (by omega) (by omega)]
    refine ⟨fun _ x14 ex14 => ?_, fun z => absurd z (by decide)⟩
    rw [c0 4 (by decide) (by decide), P2] at ex14
    rw [ex14]
    refine ⟨isO_b b13, fun x15 ex15 => ?_⟩
    rw [c0 5 (by decide) (by decide), sb5] at ex15
    rw [ex15]
    refine ⟨isO_b hb', fun S16 e16 S17 e17 x18 ex18 => ?_⟩
    have s174 : S17 0 4 = b' := by rw [e17, up_n _ (by omega), e16, up_s]
    rw [s174] at ex18
    rw [ex18]
    have s17 : ∀ a j, ¬ (a = 0 ∧ (j = 2 ∨ j = 4 ∨ j = 5)) → S17 a j = S' a j := fun a j g => by rw [e17, up_n _ (by omega), e16, up_n _ (by omega), e12, up_n _ (by omega)]
    refine ⟨isO_b hb', runc D' _ run ?_⟩
    unfold wX8_compile_161
    intro A1 ea1 A2 ea2
    have a8 : A2 0 8 = 0 := by rw [ea2, up_n _ (by omega), ea1, up_n _ (by omega)]; exact e8'
    have a10 : A2 0 10 = 1 - h := by rw [ea2, up_n _ (by omega), ea1, up_n _ (by omega)]; exact B.1.1.2.1
    rw [a8, a10]
    refine ⟨fun _ A3 ea3 => ?_, fun z => absurd z (by decide)⟩
    have b10 : A3 0 10 = 1 - h := by rw [ea3, up_n _ (by omega)]; exact a10
    have b3 : ∀ a j, ¬ a = 0 → A3 a j = D' a j := fun a j g => by rw [ea3, up_n _ (by omega), ea2, up_n _ (by omega), ea1, up_n _ (by omega)]
    rw [b10]
    refine ⟨by omega, ?_, ?_⟩
    · rw [s17 _ _ (by omega), B.1.1.2.2.1, b3 _ _ (by decide), B.1.1.2.2.2]
    · refine ⟨S', D', b', 1 - h, ⟨?_, ?_, fun j j0 j1 => ?_⟩, ?_, ?_, ⟨fun a j x y => s17 a j (by omega), s174, hb', hh', rel, oka⟩, ⟨fun a j x y => b3 a j (by omega), ?_, hh', oka⟩, okk, ?_, fun u u0 u1 => ?_, fun i hi => ?_, fun j j0 j1 => ?_, exd⟩
      · rw [s17 _ _ (by omega), fo.1 _ _ (by omega) (by omega), e6, up_s, ea3, up_n _ (by omega), ea2, up_n _ (by omega), ea1, up_s]
      · rw [ea3, up_n _ (by omega), ea2, up_n _ (by omega), ea1, up_s]; decide
      · rw [ea3, up_n _ (by omega), ea2, up_n _ (by omega), ea1, up_s] at j1; omega
      · rw [e17, up_n _ (by omega), e16, up_n _ (by omega), e12, up_s, e7', ea3, up_n _ (by omega), ea2, up_s, ea1, up_n _ (by omega)]; exact e8'.symm
      · rw [s17 _ _ (by omega), fo.1 _ _ (by omega) (by omega), o46 _ _ (by omega) (by omega), s3, ea3, up_n _ (by omega), ea2, up_n _ (by omega), ea1, up_n _ (by omega), ho.1 _ _ (inH_no (by omega)), o9 _ _ (by omega) (by omega)]
      · rw [ea3, up_s]
      · rcases bb with w | w
        · right; exact ⟨w.2, by rw [e17, up_s]; exact w.1⟩
        · left; exact ⟨w.2, by rw [e17, up_s]; exact w.1⟩
      · have nb : ∀ c, (c = 2 ∨ c = 515) → S17 (ty c u) 0 = SC (ty c u) 0 := fun c hc => by
          rw [s17 _ _ (by unfold ty; omega)]
          by_cases cc : c = b'
          · rw [cc, fo.2 u u0 u1, o46 _ _ (by unfold ty; omega) (by unfold ty; omega)]
          · rw [fo.1 _ _ (by unfold ty; omega) (by unfold ty; omega), o46 _ _ (by unfold ty; omega) (by unfold ty; omega)]
        rw [nb 2 (Or.inl rfl), nb 515 (Or.inr rfl)]; exact s5 u u0 u1
      · rw [b3 _ _ (by decide), ho.1 _ _ (inH_no (by omega)), o9 _ _ (by omega) (by omega)]; exact s6 i hi
      · rw [ea3, up_n _ (by omega), ea2, up_n _ (by omega), ea1, up_s] at j1; omega
  · -- a fault is told
    obtain ⟨f, p, f1, v7, v8, z8, z9, fo, ho⟩ := f
    intro S12 e12
    rw [v7] at e12
    refine ⟨fun z => absurd rfl z, fun _ => runc D' _ run ?_⟩
    unfold wX8_compile_161
    intro A1 ea1 A2 ea2
    have z18 : A1 0 8 = f := by rw [ea1, up_n _ (by omega)]; exact z8
    rw [z18] at ea2
    have a8 : A2 0 8 = f := by rw [ea2, up_n _ (by omega)]; exact z18
    have a9 : A2 0 9 = p := by rw [ea2, up_n _ (by omega), ea1, up_n _ (by omega)]; exact z9
    rw [a8, a9]
    refine ⟨fun z => by omega, fun _ => ⟨by rw [e12, up_n _ (by omega), v8], ?_⟩⟩
    have ad : ∀ a j, ¬ (a = 0 ∧ (j = 1 ∨ j = 2)) → A2 a j = D' a j := fun a j g => by rw [ea2, up_n _ (by omega), ea1, up_n _ (by omega)]
    have n24 := R4.1.1.1
    have hal := AgR_half (D := D) (D' := A2) (n := D 3 h) (nm := D 4 h) (nb := D 5 h) P4 rfl n24 R4.2.2.1.2 R4.2.2.2.1.2 (fun a j x y w => by rw [ad _ _ (by omega), ho.1 _ _ w, o9 _ _ (by omega) (fun q => w (Or.inr (Or.inl ⟨q.1.1, q.1.2, q.2⟩)))]; exact R1 a j x y)
    obtain ⟨A, c3, c4, c5, c6⟩ := hal
    have oka := tr_okA A c3 c4 c5 R4
    have okk := tr_okK A c4 R4 K
    have rel := tr_Rel A c3 c4 c5 c6 R4 s8.2 P5
    have s12 : ∀ a j, ¬ (a = 0 ∧ j = 2) → S12 a j = S' a j := fun a j g => by rw [e12, up_n _ (by omega)]
    have c0 : ∀ j, ¬ j = 1 → ¬ j = 2 → S12 0 j = SC 0 j := fun j z1 z2 => by rw [s12 _ _ (by omega), fo.1 _ _ (by omega) (by omega), o46 _ _ (by omega) (by omega)]
    refine ⟨E, A2, b, h, ⟨?_, ?_, fun j j0 j1 => ?_⟩, ?_, ?_, ⟨fun a j x y => ?_, ?_, P3, P4, rel, oka⟩, ⟨fun _ _ _ _ => rfl, ?_, R3, oka⟩, okk, ?_, fun u u0 u1 => ?_, fun i hi => ?_, fun j j0 j1 => ?_, fun j => ?_, fun u u0 u1 => ?_⟩
    · rw [s12 _ _ (by omega), fo.1 _ _ (by omega) (by omega), e6, up_s, ea2, up_n _ (by omega), ea1, up_s]
    · rw [ea2, up_n _ (by omega), ea1, up_s]; decide
    · rw [ea2, up_n _ (by omega), ea1, up_s] at j1; omega
    · rw [e12, up_s, ea2, up_s]
    · rw [c0 3 (by decide) (by decide), s3, ad _ _ (by omega), ho.1 _ _ (inH_no (by omega)), o9 _ _ (by omega) (by omega)]
    · rw [s12 _ _ (by omega), fo.1 _ _ (by omega) (by omega), o46 _ _ (by omega) (by omega)]; exact P1 a j x y
    · rw [c0 4 (by decide) (by decide)]; exact P2
    · rw [ad _ _ (by omega), ho.1 _ _ (inH_no (by omega)), o9 _ _ (by omega) (by omega)]; exact R2
    · rw [c0 5 (by decide) (by decide), sb5]
      rcases bb with w | w
      · exact Or.inl w
      · exact Or.inr w
    · have nb : ∀ c, (c = 2 ∨ c = 515) → S12 (ty c u) 0 = SC (ty c u) 0 := fun c hc => by
        rw [s12 _ _ (by unfold ty; omega)]
        by_cases cc : c = b'
        · rw [cc, fo.2 u u0 u1, o46 _ _ (by unfold ty; omega) (by unfold ty; omega)]
        · rw [fo.1 _ _ (by unfold ty; omega) (by unfold ty; omega), o46 _ _ (by unfold ty; omega) (by unfold ty; omega)]
      rw [nb 2 (Or.inl rfl), nb 515 (Or.inr rfl)]; exact s5 u u0 u1
    · rw [ad _ _ (by omega), ho.1 _ _ (inH_no (by omega)), o9 _ _ (by omega) (by omega)]; exact s6 i hi
    · rw [ea2, up_n _ (by omega), ea1, up_s] at j1; omega
    · rw [ad _ _ (by omega)]; exact ho.2 le9 j
    · rw [c3] at u1
      rw [A.1 13 u (by omega) u0 u1]; exact s8.2 u u0 u1
end Comp2
