/-! pure: reading: what a reading may change; LOADER items -/
def inH (h a j : Int) : Prop := (a = 0 ∧ ((4 ≤ j ∧ j ≤ 10) ∨ (46 ≤ j ∧ j ≤ 48))) ∨ (3 ≤ a ∧ a ≤ 6 ∧ j = h) ∨ a = 7 ∨ (((8 ≤ a ∧ a ≤ 13) ∨ a = 16 ∨ a = 19 ∨ a = 20 ∨ (24 ≤ a ∧ a ≤ 27)) ∧ 24 * h ≤ j ∧ j < 24 * h + 24) ∨ ((a = 14 ∨ a = 15) ∧ 48 * h ≤ j ∧ j < 48 * h + 48) ∨ (a = 17 ∧ 120 * h ≤ j ∧ j < 120 * h + 120) ∨ (a = 18 ∧ 240 * h ≤ j ∧ j < 240 * h + 240) ∨ ((a = 21 ∨ a = 22) ∧ 576 * h ≤ j ∧ j < 576 * h + 576) ∨ (a = 23 ∧ 1152 * h ≤ j ∧ j < 1152 * h + 1152) ∨ (28 ≤ a ∧ a ≤ 32 ∧ 120 * h ≤ j ∧ j < 120 * h + 120) ∨ (a = 33 ∧ 360 * h ≤ j ∧ j < 360 * h + 360) ∨ (a = 34 ∧ 14400 * h ≤ j ∧ j < 14400 * h + 14400) ∨ ((a = 35 ∨ a = 36) ∧ 7200 * h ≤ j ∧ j < 7200 * h + 7200)
def LE33 (D : St) : Prop := ∀ j, D 33 j ≤ 101
def offH (D D' : St) (h : Int) : Prop := (∀ a j, ¬ inH h a j → D' a j = D a j) ∧ (LE33 D → LE33 D')
def offFam (S S' : St) (b : Int) : Prop := (∀ a j, ¬ (b ≤ a ∧ a < b + 513) → ¬ (1028 ≤ a ∧ a ≤ 1036) → S' a j = S a j) ∧ ∀ t, 0 ≤ t → t < 24 → S' (ty b t) 0 = S (ty b t) 0
/-- both have told one fault -/
def FO (S SR : St) (b h : Int) (S' SR' : St) : Prop := ∃ f p, 1 ≤ f ∧ S' 1032 7 = f ∧ S' 1032 8 = p ∧ SR' 0 8 = f ∧ SR' 0 9 = p ∧ offFam S S' b ∧ offH SR SR' h
section Items
variable {T te so va pl : Int → Int} {n N i b h : Int} {S SR S1 R1 S' SR' : St}
theorem offH.tr (a : offH SR R1 h) (c : offH R1 SR' h) : offH SR SR' h := ⟨fun x j g => (c.1 x j g).trans (a.1 x j g), fun w => c.2 (a.2 w)⟩
theorem offFam.tr (a : offFam S S1 b) (c : offFam S1 S' b) : offFam S S' b := ⟨fun x j g1 g2 => (c.1 x j g1 g2).trans (a.1 x j g1 g2), fun t t0 t1 => (c.2 t t0 t1).trans (a.2 t t0 t1)⟩
theorem offFam_rd (hb : b = 2 ∨ b = 515) (o : ∀ a j, ¬ (1028 ≤ a ∧ a ≤ 1036) → S' a j = S a j) : offFam S S' b := ⟨fun a j _ g => o a j g, fun t t0 t1 => o _ _ (by unfold ty; omega)⟩
theorem offH_0 (o : ∀ a j, ¬ (a = 0 ∧ ((4 ≤ j ∧ j ≤ 10) ∨ (46 ≤ j ∧ j ≤ 48))) → SR' a j = SR a j) : offH SR SR' h := ⟨fun a j g => o a j (fun w => g (Or.inl w)), fun w j => by rw [o 33 j (by omega)]; exact w j⟩
theorem offH_N (o : offN SR SR') : offH SR SR' h := offH_0 (fun a j g => o a j (by omega))
theorem offFam_Ad (hb : b = 2 ∨ b = 515) (o : offAd S S') : offFam S S' b := offFam_rd hb (fun a j g => o a j (by omega))
theorem msf_pos (s : Int) : 1 ≤ msf s := by unfold msf; split <;> omega
theorem FO_mk {f p : Int} (hb : b = 2 ∨ b = 515) (f1 : 1 ≤ f) (a : offFam S S1 b) (c : offH SR R1 h) (g : FLc S1 S' f p) (r : FLr R1 SR' f p) : FO S SR b h S' SR' :=
  ⟨f, p, f1, g.1, g.2.1, r.1, r.2.1, a.tr (offFam_rd hb (fun x j w => g.2.2 x j (by omega))), c.tr (offH_0 (fun x j w => r.2.2 x j (by omega)))⟩
theorem J_readLoader {k : Int → St → Prop} (hb : b = 2 ∨ b = 515) (K : Tks T n N te so va pl) (C : CTk N so va pl S i) (R : RTk T n te so va pl SR i) (si : so i = 201)
    (h1 : ∀ S' SR' v, CTk N so va pl S' (i + 3) → RTk T n te so va pl SR' (i + 3) → S' 1032 10 = v → SR' 0 47 = v → (∀ a j, ¬ (a = 1032 ∧ ((4 ≤ j ∧ j ≤ 6) ∨ j = 10)) → S' a j = S a j) → (∀ a j, ¬ (a = 0 ∧ ((4 ≤ j ∧ j ≤ 7) ∨ j = 47)) → SR' a j = SR a j) → (∀ k : St → Prop, k SR' → wX8_readLoader SR k) → k 1 S')
    (h0 : ∀ S' SR', FO S SR b h S' SR' → (∀ k : St → Prop, k SR' → wX8_readLoader SR k) → k 0 S') : wX4_readLoader S k := by
  have N4 := K.1.2
  unfold wX4_readLoader wX4_readLoader_0
  obtain ⟨R1, ⟨r1, o1⟩, n1⟩ := R_nx K C.1 R (by omega)
  refine C_adv K C (by omega) (fun S1 a1 C1 => ?_)
  have t1 := K.2.2.1 (i + 1) C1.1.1 C1.1.2
  have c7 := C1.2.2.2.2.2.2.1
  have c8 := C1.2.2.2.2.2.2.2
  have bad : ¬ (so (i + 1) = 3 ∧ va (i + 1) ≤ 2) → wX4_readLoader_23 S1 k := by
    intro z
    unfold wX4_readLoader_23
    obtain ⟨R2, f2, n2⟩ := R_od r1 t1.2.1
    refine C_misf N4 C1 (fun S2 g2 => ⟨Or.inl rfl, h0 S2 R2 (FO_mk hb (msf_pos _) (offFam_Ad hb a1) (offH_N o1) g2 f2) (fun k' hk => ?_)⟩)
    unfold wX8_readLoader wX8_readLoader_0
    refine n1 _ (R_isS r1 t1.2.1 (x := 3) (by unfold srtOK; omega) (by decide) (fun w => ⟨fun q => absurd q (by decide), fun _ => ⟨fun q => ?_, fun _ => ?_⟩⟩) (fun w => ⟨fun _ => ?_, fun q => absurd rfl q⟩))
    · rw [r1.2.2.2.2.2.2.1 (Or.inr w)] at q
      exact absurd ⟨w, q⟩ z
    · unfold wX8_readLoader_23; exact n2 _ hk
    · unfold wX8_readLoader_23; exact n2 _ hk
  rw [c7, c8]
  refine ⟨fun z => bad (fun w => z w.1), fun z => ⟨fun z2 S2 e2 => ?_, fun z2 => bad (fun w => by omega)⟩⟩
  have v7 := r1.2.2.2.2.2.2.1 (Or.inr z)
  have C2 : CTk N so va pl S2 (i + 1) := C1.off (fun a j g => by rw [e2, up_n _ (by omega)])
  obtain ⟨R2, e2'⟩ : ∃ R2, R2 = up R1 0 47 (w32 (R1 0 7)) := ⟨_, rfl⟩
  have r2 : RTk T n te so va pl R2 (i + 1) := r1.off (fun a j g => by rw [e2', up_n _ (by omega)])
  obtain ⟨R3, ⟨r3, o3⟩, n3⟩ := R_nx K C2.1 r2 (by omega)
  refine C_adv K C2 (by omega) (fun S3 a3 C3 => ?_)
  have e : i + 1 + 1 = i + 2 := by omega
  rw [e] at C3 r3
  have fin : ∀ R4 : St, (∀ k : St → Prop, k R4 → wX8_take R3 59 k) → ∀ k : St → Prop, k R4 → wX8_readLoader SR k := by
    intro R4 n4 k' hk
    unfold wX8_readLoader wX8_readLoader_0
    refine n1 _ (R_isS r1 t1.2.1 (x := 3) (by unfold srtOK; omega) (by decide) (fun w => ⟨fun q => absurd q (by decide), fun _ => ⟨fun q x ex => ?_, fun q => by omega⟩⟩) (fun w => absurd z w))
    rw [ex, ← e2']
    exact n3 _ (n4 _ hk)
  refine J_take K C3 r3 (x := 59) (y := 59) (by unfold srtOK; omega) (by decide) (by decide) (fun z4 S4 R4 a4 C4 o4 r4 n4 => ⟨Or.inr rfl, ?_⟩) (fun S4 R4 g4 f4 n4 => ⟨Or.inl rfl, h0 S4 R4 (FO_mk hb (msf_pos _) (S1 := S3) (R1 := R3) (offFam_rd hb (fun a j g => ?_)) (offH_0 (fun a j g => ?_)) g4 f4) (fin R4 n4)⟩)
  · have e3 : i + 2 + 1 = i + 3 := by omega
    rw [e3] at C4 r4
    refine h1 S4 R4 (w32 (va (i + 1))) C4 r4 ?_ ?_ (fun a j g => ?_) (fun a j g => ?_) (fin R4 n4)
    · rw [a4 _ _ (by omega), a3 _ _ (by omega), e2, up_s]
    · rw [o4 _ _ (by omega), o3 _ _ (by omega), e2', up_s, v7]
    · rw [a4 _ _ (by omega), a3 _ _ (by omega), e2, up_n _ (by omega), a1 _ _ (by omega)]
    · rw [o4 _ _ (by omega), o3 _ _ (by omega), e2', up_n _ (by omega), o1 _ _ (by omega)]
  · rw [a3 _ _ (by omega), e2, up_n _ (by omega), a1 _ _ (by omega)]
  · rw [o3 _ _ (by omega), e2', up_n _ (by omega), o1 _ _ (by omega)]
end Items
