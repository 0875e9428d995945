/-! pure: reading: the stages, both together -/
def tyS (D : St) : Prop := D 0 8 = 0 ∧ ¬ D 0 5 = 0 ∧ ¬ D 0 5 = 10 ∧ ¬ D 0 5 = 11 ∧ (D 0 5 = 20 ∨ D 0 5 = 12 ∨ D 0 5 = 13)
/-- where both stand in the text -/
def StI (b h : Int) (D0 S D : St) : Prop :=
  (S 1032 11 = 0 ∧ (∃ t M base, Bt S b D h t M base) ∧ ∀ k : Int → St → Prop, wX8_compile_74 D k → wX8_compile_74 D0 k) ∨
  ∃ (Dy : St) (t : Int), tyS Dy ∧ (0 ≤ t ∧ t < 24) ∧ (∀ k : Int → St → Prop, wX8_compile_74 Dy k → wX8_compile_74 D0 k) ∧
    ((S 1032 11 = 1 ∧ ∃ f M base, Op S b D h t M M base ∧ D 16 (24 * h + t) = 0 ∧ D 13 (24 * h + t) = 0 ∧ D 11 (24 * h + t) = f ∧ ∀ P : St → Prop, RKn D t f P → wX8_readType Dy P) ∨
     (S 1032 11 = 2 ∧ ∃ M base, Op S b D h t M M base ∧ ∀ P : St → Prop, RKr D h t P → wX8_readType Dy P) ∨
     (S 1032 11 = 3 ∧ ∃ M0 M1 base, Op S b D h t M0 M1 base ∧ ∀ P : St → Prop, wX8_readType_292 D t P → wX8_readType Dy P))
def LpI (T : Int → Int) (n N : Int) (te so va pl : Int → Int) (b h : Int) (S0 D0 : St) (i : Int) (S D : St) : Prop := CTk N so va pl S i ∧ RTk T n te so va pl D i ∧ (∃ np, Pq S b D h np ∧ 7 * np ≤ te i) ∧ offFam S0 S b ∧ offH D0 D h ∧ S 1032 7 = 0 ∧ StI b h D0 S D
section Stage
variable {T te so va pl : Int → Int} {n N i b h t M base np : Int} {S D S0 D0 S' D' : St}
theorem rs {x y : Int} (R : RTk T n te so va pl D i) (ok : srtOK (so i)) (okx : srtOK x) (e : rsrt x = y) : D 0 5 = y ↔ so i = x := by
  rw [R.2.2.2.2.1, ← e]
  exact rsrt_inj ok okx
theorem R_cstep {k : Int → St → Prop} (hs : ∀ P : St → Prop, P D' → wX8_compile_74_b D P k) (hk : wX8_compile_74 D' k) : wX8_compile_74 D k := by
  unfold wX8_compile_74 at hk ⊢
  exact wlp_step (a' := D') (fun P hp => hs (fun b0 => P b0) hp) hk
theorem R_cty {k : Int → St → Prop} (g : tyS D) (hs : ∀ P : St → Prop, P D' → wX8_readType D P) (hk : wX8_compile_74 D' k) : wX8_compile_74 D k := by
  obtain ⟨g1, g2, g3, g4, g5⟩ := g
  refine R_cstep (fun P hp => ?_) hk
  have ty : wX8_compile_147 D P k := hs (fun S_1 => P S_1) hp
  unfold wX8_compile_74_b wX8_goesOn wX8_goesOn_0
  refine ⟨fun z => absurd g1 z, fun _ => ⟨fun z => absurd z (by decide), fun _ => ⟨fun z => absurd z g2, fun _ => ⟨fun _ => ⟨fun _ => ⟨fun _ => ty, fun n20 => ⟨fun _ => ty, fun n12 => ⟨fun n13 => ?_, fun _ => ty⟩⟩⟩, fun z => absurd z g4⟩, fun z => absurd z g3⟩⟩⟩⟩
  rcases g5 with w | w | w
  · exact absurd w n20
  · exact absurd w n12
  · exact absurd w n13
theorem R_cend {k : Int → St → Prop} (g : ¬ D 0 8 = 0 ∨ D 0 5 = 0) (hk : wX8_compile_161 D k) : wX8_compile_74 D k := by
  unfold wX8_compile_74
  refine wlp_exit (fun P => ?_)
  show wX8_compile_74_b D (fun b0 => P b0) k
  unfold wX8_compile_74_b wX8_goesOn wX8_goesOn_0
  refine ⟨fun z => ⟨fun _ => hk, fun w => absurd rfl w⟩, fun z => ⟨fun w => absurd w (by decide), fun _ => ⟨fun _ => hk, fun w => ?_⟩⟩⟩
  rcases g with g | g
  · exact absurd z g
  · exact absurd g w
theorem Op_head (hb : b = 2 ∨ b = 515) (hh : half01 h) (ht : 0 ≤ t ∧ t < 24) (O : Op S b D h t M M base) (H' : Hd S' b D' h t) (c : fCt S S' b t) (r : fRt D D' h t) : Op S' b D' h t M M base := by
  have h01 : 0 ≤ h ∧ h ≤ 1 := by unfold half01 at hh; omega
  obtain ⟨Hd1, Kc, Km, Sg, l25, le0⟩ := O
  obtain ⟨k1, k2, k3, k4, ⟨k5, k6, k7, k8⟩, ⟨k9, k10, k11, k12⟩⟩ := Km
  have A : AgR D D' h t M base := ⟨fun a u ha u0 u1 => r _ _ (by unfold inTy; omega), fun a u k ha u0 u1 k0 k1 => r _ _ (by unfold inTy; omega), fun u i u0 u1 i0 i1 => r _ _ (by unfold inTy; omega), fun a u x ha u0 u1 x0 x1 => r _ _ (by unfold inTy; omega), fun u x k u0 u1 x0 x1 k0 k1 => r _ _ (by unfold inTy; omega), fun a x g1 g2 x0 x1 => r _ _ (by unfold inTy; omega), fun x z x0 x1 z0 z2 => r _ _ (by unfold inTy; omega), fun x z x0 x1 z0 z1 => r _ _ (by unfold inTy; omega), fun a i ha i0 i1 => r _ _ (by unfold inTy; omega)⟩
  have Kc' : RDc S' b D' h t M base := RDc_tr (by omega) k1.2.2 A ht.1 (fun a j g1 g2 => c a j (by unfold ty at g2; omega) (by omega) (by omega)) Kc
  have ok : ∀ m, 0 ≤ m → m < M → okM D h m ∧ D 28 (120 * h + m) < t := fun m m0 m1 => ⟨(Kc.2.1 m m0 m1).1, (Kc.2.1 m m0 m1).2.1⟩
  have mS : ∀ a j, me b 0 ≤ a → a < me b M → S' a j = S a j := fun a j g1 g2 => c a j (by unfold me at g1 g2; omega) (by unfold me at g1; unfold ty; omega) (by unfold me at g1; unfold ty; omega)
  have w := rMs_tr (E' := S') A ok mS k3 k4
  have e7 : ∀ q, 0 ≤ q → q < M → S' (me b q) 7 = S (me b q) 7 := fun q q0 q1 => mS _ _ (by unfold me; omega) (by unfold me; omega)
  refine ⟨H', Kc', ⟨k1, fun m m0 m1 => by omega, w.1, w.2, ⟨?_, ?_, ?_, ?_⟩, ⟨?_, ?_, ?_, ?_⟩⟩, fun q q0 q1 => ?_, ?_, fun j => ?_⟩
  · rw [c _ _ (by unfold ty; omega) (by omega) (by omega)]; exact k5
  · rw [c _ _ (by unfold ty; omega) (by omega) (by omega)]; exact k6
  · rw [c _ _ (by omega) (by unfold ty; omega) (by unfold ty; omega)]; exact k7
  · rw [c _ _ (by omega) (by unfold ty; omega) (by unfold ty; omega)]; exact k8
  · rw [r _ _ (by unfold inTy; omega)]; exact k9
  · rw [r _ _ (by unfold inTy; omega)]; exact k10
  · rw [r _ _ (by unfold inTy; omega)]; exact k11
  · rw [r _ _ (by unfold inTy; omega)]; exact k12
  · have s := Sg q q0 q1
    rw [e7 q q0 q1]
    refine ⟨s.1, (tr_sou A ⟨s.1.1, by omega⟩ ⟨q0, q1⟩ (ok _ s.1.1 (by omega)).1 (ok q q0 q1).1 (ok _ s.1.1 (by omega)).2 (ok q q0 q1).2).mpr s.2⟩
  · rw [r _ _ (by unfold inTy; omega)]; exact l25
  · rw [r 33 j (by unfold inTy; omega)]; exact le0 j
/-- packs within what is read -/
theorem Pq_go {i' : Int} (K : Tks T n N te so va pl) (i0 : 0 ≤ i) (ii : i ≤ i') (iN : i' ≤ N) (P : ∃ np, Pq S b D h np ∧ 7 * np ≤ te i) (f : pF S S' b) (g : pG D D' h) : ∃ np, Pq S' b D' h np ∧ 7 * np ≤ te i' := by
  obtain ⟨np, p, q⟩ := P
  have := te_le K i0 ii iN
  exact ⟨np, p.tr f g, by omega⟩
theorem J_stHead {kk : Int → St → Prop} (hb : b = 2 ∨ b = 515) (hh : half01 h) (K : Tks T n N te so va pl) {Dy : St} {f : Int} (C : CTk N so va pl S i) (R : RTk T n te so va pl D i) (P : ∃ np, Pq S b D h np ∧ 7 * np ≤ te i) (fo : offFam S0 S b) (ho : offH D0 D h) (s7 : S 1032 7 = 0) (gy : tyS Dy) (ht : 0 ≤ t ∧ t < 24) (ry : ∀ k : Int → St → Prop, wX8_compile_74 Dy k → wX8_compile_74 D0 k) (O : Op S b D h t M M base) (z16 : D 16 (24 * h + t) = 0) (z13 : D 13 (24 * h + t) = 0) (z11 : D 11 (24 * h + t) = f) (run : ∀ P : St → Prop, RKn D t f P → wX8_readType Dy P)
    (h1 : ∀ S' D' j, i < j → LpI T n N te so va pl b h S0 D0 j S' D' → kk 1 S') (h0 : ∀ S' D', FO S0 D0 b h S' D' → (∀ k : Int → St → Prop, wX8_compile_161 D' k → wX8_compile_74 D0 k) → kk 0 S') : wX4_readHead S kk := by
  refine J_readHead hb hh ht K C R O.1 z16 z13 z11 (fun S1 D1 j s ij C1 r1 c1 f1 H1 z1 s11 hs => ?_) (fun S1 D1 fo1 run1 => ?_)
  · have O1 := Op_head hb hh ht O H1 c1 f1
    have pf := pF_t hb ht c1
    refine h1 S1 D1 j ij ⟨C1, r1, Pq_go K C.1.1 (by omega) (by have := C1.1.2; omega) P pf (pG_t f1), fo.tr (offFam_t hb ht c1), ho.tr (offH_t ht f1), by rw [pf.2.2.2.2]; exact s7, Or.inr ⟨Dy, t, gy, ht, ry, ?_⟩⟩
    rcases hs with ⟨w1, w2⟩ | ⟨w1, w2⟩
    · exact Or.inr (Or.inl ⟨by rw [s11]; exact w1, M, base, O1, fun P hp => run P (w2 P hp)⟩)
    · exact Or.inr (Or.inr ⟨by rw [s11]; exact w1, M, M, base, O1, fun P hp => run P (w2 P hp)⟩)
  · have fo' := FO_pre fo ho fo1
    exact h0 S1 D1 fo' (fun k hk => ry k (R_cty gy (fun P hp => run P (run1 P hp)) (R_cend (Or.inl (FO_met fo')) hk)))
theorem J_stRef {k0 k1 : St → Prop} (hb : b = 2 ∨ b = 515) (hh : half01 h) (K : Tks T n N te so va pl) {Dy : St} (C : CTk N so va pl S i) (R : RTk T n te so va pl D i) (P : ∃ np, Pq S b D h np ∧ 7 * np ≤ te i) (fo : offFam S0 S b) (ho : offH D0 D h) (s7 : S 1032 7 = 0) (gy : tyS Dy) (ht : 0 ≤ t ∧ t < 24) (ry : ∀ k : Int → St → Prop, wX8_compile_74 Dy k → wX8_compile_74 D0 k) (O : Op S b D h t M M base) (run : ∀ P : St → Prop, RKr D h t P → wX8_readType Dy P)
    (h1 : ∀ S' D' j, i < j → LpI T n N te so va pl b h S0 D0 j S' D' → k1 S') (h0 : ∀ S' D', FO S0 D0 b h S' D' → (∀ k : Int → St → Prop, wX8_compile_161 D' k → wX8_compile_74 D0 k) → k0 S') : wX4_readRef S (fun x S_5 => (x = 0 → k0 S_5) ∧ (¬ x = 0 → wX4_readArguments S_5 (fun y S_7 => (y = 0 → k0 S_7) ∧ (¬ y = 0 → k1 S_7)))) := by
  refine J_ref hb hh ht K C R O.1 (fun u u0 u1 => (O.2.1.1 u u0 u1).1.2.2.1.2) (fun S1 D1 j s ij C1 r1 c1 f1 H1 s11 hs => ?_) (fun S1 D1 fo1 run1 => ?_)
  · have O1 := Op_head hb hh ht O H1 c1 f1
    have pf := pF_t hb ht c1
    refine h1 S1 D1 j ij ⟨C1, r1, Pq_go K C.1.1 (by omega) (by have := C1.1.2; omega) P pf (pG_t f1), fo.tr (offFam_t hb ht c1), ho.tr (offH_t ht f1), by rw [pf.2.2.2.2]; exact s7, Or.inr ⟨Dy, t, gy, ht, ry, ?_⟩⟩
    rcases hs with ⟨w1, w2⟩ | ⟨w1, w2⟩
    · exact Or.inr (Or.inl ⟨by rw [s11]; exact w1, M, base, O1, fun P hp => run P (w2 P hp)⟩)
    · exact Or.inr (Or.inr ⟨by rw [s11]; exact w1, M, M, base, O1, fun P hp => run P (w2 P hp)⟩)
  · have fo' := FO_pre fo ho fo1
    exact h0 S1 D1 fo' (fun k hk => ry k (R_cty gy (fun P hp => run P (run1 P hp)) (R_cend (Or.inl (FO_met fo')) hk)))
theorem J_stMember {kk : Int → St → Prop} {M0 M1 : Int} (hb : b = 2 ∨ b = 515) (hh : half01 h) (K : Tks T n N te so va pl) {Dy : St} (C : CTk N so va pl S i) (R : RTk T n te so va pl D i) (P : ∃ np, Pq S b D h np ∧ 7 * np ≤ te i) (fo : offFam S0 S b) (ho : offH D0 D h) (s7 : S 1032 7 = 0) (s11 : S 1032 11 = 3) (n125 : ¬ so i = 125) (gy : tyS Dy) (ht : 0 ≤ t ∧ t < 24) (ry : ∀ k : Int → St → Prop, wX8_compile_74 Dy k → wX8_compile_74 D0 k) (O : Op S b D h t M0 M1 base) (run : ∀ P : St → Prop, wX8_readType_292 D t P → wX8_readType Dy P)
    (h1 : ∀ S' D' j, i < j → LpI T n N te so va pl b h S0 D0 j S' D' → kk 1 S') (h0 : ∀ S' D', FO S0 D0 b h S' D' → (∀ k : Int → St → Prop, wX8_compile_161 D' k → wX8_compile_74 D0 k) → kk 0 S') : wX4_readMember S kk := by
  have t1 := K.2.2.1 i C.1.1 C.1.2
  have hM := O.2.2.1.1
  have d125 : ¬ D 0 5 = 125 := fun w => n125 ((rs R t1.2.1 (x := 125) (by unfold srtOK; omega) (by decide)).mp w)
  have stp : ∀ (D' : St) (P : St → Prop), (∀ k' : St → Prop, k' D' → wX8_readMember D t k') → wX8_readType_292 D' t P → wX8_readType_292 D t P := by
    intro D' P hs hk
    unfold wX8_readType_292 at hk ⊢
    refine wlp_step (a' := D') (fun Q hq => ?_) hk
    show wX8_readType_292_b D t (fun b0 => Q b0) P
    unfold wX8_readType_292_b wX8_goesOn wX8_goesOn_0
    exact ⟨fun z => absurd R.2.2.2.2.2.2.2 z, fun _ => ⟨fun z => absurd z (by decide), fun _ => ⟨fun z => absurd z d125, fun _ => hs _ hq⟩⟩⟩
  refine J_readMember hb hh ht K C R O (fun S1 D1 j ij C1 r1 O1 fS fD m120 run1 => ?_) (fun S1 D1 fo1 run1 => ?_)
  · have pf := pF_m hb ht (m := M1) ⟨by omega, by omega⟩ fS
    have pg := pG_m (m := M1) ⟨by omega, m120⟩ ht O1.2.2.2.2.2 fD
    have e11 : S1 1032 11 = 3 := by rw [fS _ _ (by omega) (by unfold me; omega) (by unfold ty; omega) (by omega)]; exact s11
    exact h1 S1 D1 j ij ⟨C1, r1, Pq_go K C.1.1 (by omega) (by have := C1.1.2; omega) P pf.1 pg.1, fo.tr pf.2, ho.tr pg.2, by rw [pf.1.2.2.2.2]; exact s7, Or.inr ⟨Dy, t, gy, ht, ry, Or.inr (Or.inr ⟨e11, M0, M1 + 1, base, O1, fun P hp => run P (stp D1 P run1 hp)⟩)⟩⟩
  · have fo' := FO_pre fo ho fo1
    exact h0 S1 D1 fo' (fun k hk => ry k (R_cty gy (fun P hp => run P (stp D1 P run1 (R_292_no (FO_met fo') hp))) (R_cend (Or.inl (FO_met fo')) hk)))
theorem J_stClose {kk : Int → St → Prop} {M0 M1 : Int} (hb : b = 2 ∨ b = 515) (hh : half01 h) (K : Tks T n N te so va pl) {Dy : St} (C : CTk N so va pl S i) (R : RTk T n te so va pl D i) (P : ∃ np, Pq S b D h np ∧ 7 * np ≤ te i) (fo : offFam S0 S b) (ho : offH D0 D h) (s7 : S 1032 7 = 0) (si : so i = 125) (gy : tyS Dy) (ht : 0 ≤ t ∧ t < 24) (ry : ∀ k : Int → St → Prop, wX8_compile_74 Dy k → wX8_compile_74 D0 k) (O : Op S b D h t M0 M1 base) (run : ∀ P : St → Prop, wX8_readType_292 D t P → wX8_readType Dy P)
    (h1 : ∀ S' D' j, i < j → LpI T n N te so va pl b h S0 D0 j S' D' → kk 1 S') (h0 : ∀ S' D', FO S0 D0 b h S' D' → (∀ k : Int → St → Prop, wX8_compile_161 D' k → wX8_compile_74 D0 k) → kk 0 S') : wX4_closeType S kk := by
  refine J_closeType hb hh ht K C R O si (fun S1 D1 base' C1 r1 B1 s11 pf pg f1 o1 run1 => ?_) (fun S1 D1 fo1 run1 => ?_)
  · exact h1 S1 D1 (i + 1) (by omega) ⟨C1, r1, Pq_go K C.1.1 (by omega) (by have := C1.1.2; omega) P pf pg, fo.tr f1, ho.tr o1, by rw [pf.2.2.2.2]; exact s7, Or.inl ⟨s11, ⟨t + 1, M1, base', B1⟩, fun k hk => ry k (R_cty gy (fun P hp => run P (run1 P hp)) hk)⟩⟩
  · have fo' := FO_pre fo ho fo1
    exact h0 S1 D1 fo' (fun k hk => ry k (R_cty gy (fun P hp => run P (run1 P hp)) (R_cend (Or.inl (FO_met fo')) hk)))
end Stage
