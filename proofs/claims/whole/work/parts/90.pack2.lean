/-! pure: reading: PACK items, both together -/
section Pack2
variable {T te so va pl : Int → Int} {n N i b h np : Int} {S SR : St}
def frP (S S' : St) (b : Int) : Prop := ∀ a j, ¬ (a = 1032 ∧ ((4 ≤ j ∧ j ≤ 6) ∨ j = 9)) → ¬ a = 1033 → ¬ (a = b ∧ j = 8) → S' a j = S a j
def frQ (S S' : St) (h : Int) : Prop := ∀ a j, ¬ (a = 0 ∧ ((4 ≤ j ∧ j ≤ 7) ∨ j = 46)) → ¬ (a = 6 ∧ j = h) → ¬ a = 7 → S' a j = S a j
theorem frP.fam {S' : St} (hb : b = 2 ∨ b = 515) (o : frP S S' b) : offFam S S' b := ⟨fun a j g1 g2 => o a j (by omega) (by omega) (by omega), fun t t0 t1 => o _ _ (by unfold ty; omega) (by unfold ty; omega) (by unfold ty; omega)⟩
theorem frQ.half {S' : St} (o : frQ S S' h) : offH S S' h := ⟨fun a j g => o a j (fun w => g (Or.inl (by omega))) (fun w => g (Or.inr (Or.inl (by omega)))) (fun w => g (Or.inr (Or.inr (Or.inl w)))), fun w j => by rw [o 33 j (by omega) (by omega) (by omega)]; exact w j⟩
theorem J_readPack {k : Int → St → Prop} (hb : b = 2 ∨ b = 515) (hh : half01 h) (K : Tks T n N te so va pl) (C : CTk N so va pl S i) (R : RTk T n te so va pl SR i) (si : so i = 200) (e3 : S 1032 3 = b) (hD : SR 0 10 = h) (P : Pk S b SR h np) (hnp : np ≤ 570)
    (h1 : ∀ S' SR' v np', np ≤ np' ∧ np' ≤ np + 1 → so (i + 1) = 2 → so (i + 2) = 59 → CTk N so va pl S' (i + 3) → RTk T n te so va pl SR' (i + 3) → S' 1032 9 = v → SR' 0 46 = v → Pk S' b SR' h np' → frP S S' b → frQ SR SR' h → (∀ k : St → Prop, k SR' → wX8_readPackage SR k) → k 1 S')
    (h0 : ∀ S' SR', FO S SR b h S' SR' → (∀ k : St → Prop, k SR' → wX8_readPackage SR k) → k 0 S') : wX4_readPack S k := by
  have N4 := K.1.2
  have h01 : 0 ≤ h ∧ h ≤ 1 := by unfold half01 at hh; omega
  unfold wX4_readPack wX4_readPack_0
  obtain ⟨R1, ⟨r1, o1⟩, n1⟩ := R_nx K C.1 R (by omega)
  refine C_adv K C (by omega) (fun S1 a1 C1 => ?_)
  have t1 := K.2.2.1 (i + 1) C1.1.1 C1.1.2
  have c7 := C1.2.2.2.2.2.2.1
  have c8 := C1.2.2.2.2.2.2.2
  rw [c7]
  refine ⟨fun z => ?_, fun z => ?_⟩
  · have v7 := r1.2.2.2.2.2.2.1 (Or.inl z)
    have hD1 : R1 0 10 = h := by rw [o1 _ _ (by omega)]; exact hD
    have P1 : Pk S1 b R1 h np := P.off (a1 _ _ (by omega)) (o1 _ _ (by omega)) (funext (fun j => a1 _ _ (by omega))) (funext (fun j => o1 _ _ (by omega)))
    have pre : ∀ k' : St → Prop, wX8_readPackage_21 R1 0 1 k' → wX8_readPackage SR k' := by
      intro k' g
      unfold wX8_readPackage wX8_readPackage_0
      exact n1 _ (R_isS r1 t1.2.1 (x := 2) (by unfold srtOK; omega) (by decide) (fun w => ⟨fun _ => g, fun q => absurd q (by decide)⟩) (fun w => absurd z w))
    have rest : ∀ S2 R2 x np', np ≤ np' ∧ np' ≤ np + 1 → CTk N so va pl S2 (i + 1) → RTk T n te so va pl R2 (i + 1) → Pk S2 b R2 h np' → frP S S2 b → frQ SR R2 h → (∀ k' : St → Prop, wX8_readPackage_115 R2 x k' → wX8_readPackage SR k') → ∀ S3, S3 = up S2 1032 9 x → wX4_advance S3 (fun S_8 => wX4_take S_8 59 (fun x_10 S_10 => (x_10 = 0 ∨ x_10 = 1) ∧ k x_10 S_10)) := by
      intro S2 R2 x np' hnp' C2 r2 P2 f2 g2 run S3 e3'
      have C3 : CTk N so va pl S3 (i + 1) := C2.off (fun a j g => by rw [e3', up_n _ (by omega)])
      obtain ⟨R3, er3⟩ : ∃ R3, R3 = up R2 0 46 x := ⟨_, rfl⟩
      have r3 : RTk T n te so va pl R3 (i + 1) := r2.off (fun a j g => by rw [er3, up_n _ (by omega)])
      obtain ⟨R4, ⟨r4, o4⟩, n4⟩ := R_nx K C3.1 r3 (by omega)
      refine C_adv K C3 (by omega) (fun S4 a4 C4 => ?_)
      have e : i + 1 + 1 = i + 2 := by omega
      rw [e] at C4 r4
      have fS : frP S S4 b := fun a j u1 u2 u3 => by rw [a4 _ _ (by omega), e3', up_n _ (by omega)]; exact f2 a j u1 u2 u3
      have fR : frQ SR R4 h := fun a j u1 u2 u3 => by rw [o4 _ _ (by omega), er3, up_n _ (by omega)]; exact g2 a j u1 u2 u3
      have fin : ∀ R5 : St, (∀ k : St → Prop, k R5 → wX8_take R4 59 k) → ∀ k : St → Prop, k R5 → wX8_readPackage SR k := by
        intro R5 n5 k' hk
        refine run k' ?_
        unfold wX8_readPackage_115
        intro y ey
        rw [ey, ← er3]
        exact n4 _ (n5 _ hk)
      refine J_take K C4 r4 (x := 59) (y := 59) (by unfold srtOK; omega) (by decide) (by decide) (fun z5 S5 R5 a5 C5 o5 r5 n5 => ⟨Or.inr rfl, ?_⟩) (fun S5 R5 g5 f5 n5 => ⟨Or.inl rfl, h0 S5 R5 (FO_mk hb (msf_pos _) (fS.fam hb) fR.half g5 f5) (fin R5 n5)⟩)
      have e' : i + 2 + 1 = i + 3 := by omega
      rw [e'] at C5 r5
      refine h1 S5 R5 x np' hnp' z z5 C5 r5 ?_ ?_ ?_ (fun a j u1 u2 u3 => ?_) (fun a j u1 u2 u3 => ?_) (fin R5 n5)
      · rw [a5 _ _ (by omega), a4 _ _ (by omega), e3', up_s]
      · rw [o5 _ _ (by omega), o4 _ _ (by omega), er3, up_s]
      · refine P2.off ?_ ?_ (funext (fun j => ?_)) (funext (fun j => ?_))
        · rw [a5 _ _ (by omega), a4 _ _ (by omega), e3', up_n _ (by omega)]
        · rw [o5 _ _ (by omega), o4 _ _ (by omega), er3, up_n _ (by omega)]
        · rw [a5 _ _ (by omega), a4 _ _ (by omega), e3', up_n _ (by omega)]
        · rw [o5 _ _ (by omega), o4 _ _ (by omega), er3, up_n _ (by omega)]
      · rw [a5 _ _ (by omega)]; exact fS a j u1 u2 u3
      · rw [o5 _ _ (by omega)]; exact fR a j u1 u2 u3
    obtain ⟨X, x1, x2, x3⟩ := Pk_X P1 (v := va (i + 1)) (w := R1 0 7) v7.symm
    rw [c8]
    have e31 : S1 1032 3 = b := by rw [a1 _ _ (by omega)]; exact e3
    have p0 := P.1
    refine C_pk hb e31 ⟨p0, hnp⟩ P1.2.1 x1 x2 (fun X1 S3 q => ?_) (fun X0 S2 q2 S3 q => ?_)
    · refine rest S1 R1 X np (by omega) C1 r1 P1 (fun a j u1 u2 u3 => a1 _ _ (by omega)) (fun a j u1 u2 u3 => o1 _ _ (by omega)) (fun k' g => pre k' (R_pk hh hD1 ⟨p0, hnp⟩ P1.2.2.1 x1 x3 (fun _ => g) (fun w => by omega))) S3 q
    · obtain ⟨R2, er2⟩ : ∃ R2, R2 = up (up R1 6 h (np + 1)) 7 (700 * h + (np + 1)) (R1 0 7) := ⟨_, rfl⟩
      have C2 : CTk N so va pl S2 (i + 1) := C1.off (fun a j g => by rw [q2, up_n _ (by omega), up_n _ (by omega)])
      have r2 : RTk T n te so va pl R2 (i + 1) := r1.off (fun a j g => by rw [er2, up_n _ (by omega), up_n _ (by omega)])
      have P2 : Pk S2 b R2 h (np + 1) := by
        refine Pk.add (v := va (i + 1)) h01.1 P1 (fun x u0 u1 w => by have := (x2 x u0 u1).mp w; omega) ?_ ?_ ?_ ?_ (fun j u => ?_) (fun j u => ?_)
        · rw [q2, up_s]
        · rw [er2, up_n _ (by omega), up_s]
        · rw [q2, up_n _ (by omega), up_s]
        · rw [er2, up_s, v7]
        · rw [q2, up_n _ (by omega), up_n _ (by omega)]
        · rw [er2, up_n _ (by omega), up_n _ (by omega)]
      refine rest S2 R2 (np + 1) (np + 1) (by omega) C2 r2 P2 (fun a j u1 u2 u3 => ?_) (fun a j u1 u2 u3 => ?_) (fun k' g => pre k' (R_pk hh hD1 ⟨p0, hnp⟩ P1.2.2.1 x1 x3 (fun w => by omega) (fun _ S1' w => by rw [w, ← er2]; exact g))) S3 q
      · rw [q2, up_n _ (by omega), up_n _ (by omega)]; exact a1 _ _ (by omega)
      · rw [er2, up_n _ (by omega), up_n _ (by omega)]; exact o1 _ _ (by omega)
  · obtain ⟨R2, f2, n2⟩ := R_od r1 t1.2.1
    refine C_misf N4 C1 (fun S2 g2 => ⟨Or.inl rfl, h0 S2 R2 (FO_mk hb (msf_pos _) (offFam_Ad hb a1) (offH_N o1) g2 f2) (fun k' hk => ?_)⟩)
    unfold wX8_readPackage wX8_readPackage_0
    exact n1 _ (R_isS r1 t1.2.1 (x := 2) (by unfold srtOK; omega) (by decide) (fun w => absurd w z) (fun w => ⟨fun q => absurd rfl q, fun _ => n2 _ hk⟩))
end Pack2
