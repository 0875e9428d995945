/-! pure: reading: arguments of a REF, both together -/
def mC (S S' : St) (b t : Int) : Prop := ∀ a j, ¬ (a = 1032 ∧ ((4 ≤ j ∧ j ≤ 6) ∨ j = 11 ∨ j = 13)) → ¬ (a = ty b t ∧ 9 ≤ j ∧ j ≤ 15) → ¬ a = ty b t + 3 → ¬ a = ty b t + 5 → S' a j = S a j
def mR (D D' : St) (h t : Int) : Prop := ∀ a j, ¬ (a = 0 ∧ 4 ≤ j ∧ j ≤ 7) → ¬ ((a = 16 ∨ a = 19) ∧ j = 24 * h + t) → ¬ (a = 17 ∧ 5 * (24 * h + t) ≤ j ∧ j < 5 * (24 * h + t) + 5) → ¬ (a = 18 ∧ 10 * (24 * h + t) ≤ j ∧ j < 10 * (24 * h + t) + 10) → D' a j = D a j
/-- what a NAME within a type's head or members is looked up in -/
def Md (S : St) (b : Int) (D : St) (h t : Int) : Prop := Hc S b D h t ∧ dsv D h t ∧ rT S b D h t ∧ 0 ≤ D 13 (24 * h + t) ∧ D 13 (24 * h + t) ≤ 2
section Args
variable {T te so va pl : Int → Int} {n N i b h t r c m : Int} {S D S' D' S1 D1 : St}
theorem Hd.md (H : Hd S b D h t) : Md S b D h t := ⟨H.1, H.2.1, H.2.2.1, H.2.2.2.2.1.1⟩
theorem mC.f (g : mC S S' b t) : fCt S S' b t := fun a j g1 g2 g3 => g a j g1 (by omega) (by omega) (by omega)
theorem mR.f (g : mR D D' h t) : fRt D D' h t := fun a j w => g a j (fun z => w (by unfold inTy; omega)) (fun z => w (by unfold inTy; omega)) (fun z => w (by unfold inTy; omega)) (fun z => w (by unfold inTy; omega))
theorem mC.tr (g : mC S S1 b t) (g' : mC S1 S' b t) : mC S S' b t := fun a j g1 g2 g3 g4 => (g' a j g1 g2 g3 g4).trans (g a j g1 g2 g3 g4)
theorem mR.tr (g : mR D D1 h t) (g' : mR D1 D' h t) : mR D D' h t := fun a j g1 g2 g3 g4 => (g' a j g1 g2 g3 g4).trans (g a j g1 g2 g3 g4)
theorem mC_Ad (o : offAd S S') : mC S S' b t := fun a j g _ _ _ => o a j (by omega)
theorem mR_N (o : offN D D') : mR D D' h t := fun a j g _ _ _ => o a j g
theorem Md.tr (hb : b = 2 ∨ b = 515) (ht : 0 ≤ t ∧ t < 24) (M : Md S b D h t) (c : mC S S' b t) (d : mR D D' h t) : Md S' b D' h t := by
  obtain ⟨x1, x2, ⟨g0, g1, g2, g3, g4, g5, g6, g7⟩, x4⟩ := M
  have e0 : ∀ j, j < 9 → S' (ty b t) j = S (ty b t) j := fun j g => c _ _ (by unfold ty; omega) (by omega) (by omega) (by omega)
  have e1 : ∀ j, S' (ty b t + 1) j = S (ty b t + 1) j := fun j => c _ _ (by unfold ty; omega) (by omega) (by omega) (by omega)
  have e2 : ∀ j, S' (ty b t + 2) j = S (ty b t + 2) j := fun j => c _ _ (by unfold ty; omega) (by omega) (by omega) (by omega)
  have eD : ∀ a, 8 ≤ a → a ≤ 15 → D' a = D a := fun a g1 g2 => funext (fun j => d _ _ (by omega) (by omega) (by omega) (by omega))
  refine ⟨Hc_tr hb ht x1 c.f d.f, ?_, ⟨?_, ?_, ?_, ?_, ?_, ?_, ?_, fun k => ?_⟩, ?_⟩
  · unfold dsv at x2 ⊢
    rw [eD 13 (by decide) (by decide), eD 14 (by decide) (by decide)]; exact x2
  · rw [e0 0 (by decide)]; exact g0
  · rw [e0 1 (by decide), eD 8 (by decide) (by decide)]; exact g1
  · rw [e0 2 (by decide), eD 9 (by decide) (by decide)]; exact g2
  · rw [e0 3 (by decide), eD 10 (by decide) (by decide)]; exact g3
  · rw [e0 4 (by decide), eD 11 (by decide) (by decide)]; exact g4
  · rw [e0 5 (by decide), eD 12 (by decide) (by decide)]; exact g5
  · rw [e0 6 (by decide), eD 13 (by decide) (by decide)]; exact g6
  · rw [e1, e2, eD 13 (by decide) (by decide), eD 14 (by decide) (by decide), eD 15 (by decide) (by decide)]; exact g7 k
  · rw [eD 13 (by decide) (by decide)]; exact x4
theorem Md.ck {k : Int → Prop} {v : Int} (hb : b = 2 ∨ b = 515) (ht : 0 ≤ t ∧ t < 24) (M : Md S b D h t) (h1 : ∀ c, kdN D h t v c → k c) (h0 : (∀ c, ¬ kdN D h t v c) → k (-9)) : wX4_kindNamed S v k := by
  obtain ⟨⟨⟨e3, hD, c1, d3, c12⟩, Hu, ds⟩, dv, rt, v2⟩ := id M
  exact C_kn hb ht e3 c1 c12 (Hc_nm M.1 rt) ds v2 rt.2.2.2.2.2.2.1 (fun u u0 u1 => (rt.2.2.2.2.2.2.2 u u0 u1).1) h1 h0
theorem Md.rk {k : Int → Prop} {v : Int} (hh : half01 h) (ht : 0 ≤ t ∧ t < 24) (M : Md S b D h t) (h1 : ∀ c, kdN D h t v c → k c) (h0 : (∀ c, ¬ kdN D h t v c) → k (-1)) : wX8_varNamed D v t (fun x_5 => (x_5 < 0 → wX8_seenType D v t (fun x_8 => k x_8)) ∧ (0 ≤ x_5 → k (w32 (100 + x_5)))) := by
  obtain ⟨⟨⟨e3, hD, c1, d3, c12⟩, Hu, ds⟩, dv, rt, v2⟩ := id M
  exact R_kn hh hD ht ds v2 dv h1 h0
/-- a NAME is taken as a kind -/
theorem R_tkn (hh : half01 h) (ht : 0 ≤ t ∧ t < 24) (K : Tks T n N te so va pl) (hi : 0 ≤ i ∧ i < N) (R : RTk T n te so va pl D i) (M : Md S b D h t) (si : so i = 2) {y : Int} (g : kdN D h t (va i) y) : ∃ D', (RTk T n te so va pl D' (i + 1) ∧ offN D D') ∧ ∀ k : Int → St → Prop, k y D' → wX8_takeNamed D t k := by
  have t1 := K.2.2.1 i hi.1 hi.2
  obtain ⟨D', q, n1⟩ := R_nx K hi R (by omega)
  refine ⟨D', q, fun k hk => ?_⟩
  unfold wX8_takeNamed wX8_takeNamed_0
  refine R_isS R t1.2.1 (x := 2) (by unfold srtOK; omega) (by decide) (fun w => ⟨fun _ => ?_, fun z => absurd z (by decide)⟩) (fun w => absurd si w)
  rw [R.2.2.2.2.2.2.1 (Or.inl si)]
  refine M.rk hh ht (k := fun s => wX8_takeNamed_44 D s k) (fun y' g' => ?_) (fun g' => absurd g (g' y))
  rw [kdN_one M.1.2.2 M.2.1 g' g]
  have := kdN_pos g
  unfold wX8_takeNamed_44
  exact ⟨fun _ => n1 _ hk, fun z => by omega⟩
theorem R_tkn0 (hh : half01 h) (ht : 0 ≤ t ∧ t < 24) (K : Tks T n N te so va pl) (hi : 0 ≤ i ∧ i < N) (R : RTk T n te so va pl D i) (M : Md S b D h t) (si : so i = 2) (g : ∀ y, ¬ kdN D h t (va i) y) : ∃ D', FLr D D' 3 (pl i) ∧ ∀ k : Int → St → Prop, k (-1) D' → wX8_takeNamed D t k := by
  have t1 := K.2.2.1 i hi.1 hi.2
  obtain ⟨D', q, n1⟩ := R_fl (S := D) (f := 3) (p := pl i) R.2.2.2.2.2.2.2
  refine ⟨D', q, fun k hk => ?_⟩
  unfold wX8_takeNamed wX8_takeNamed_0
  refine R_isS R t1.2.1 (x := 2) (by unfold srtOK; omega) (by decide) (fun w => ⟨fun _ => ?_, fun z => absurd z (by decide)⟩) (fun w => absurd si w)
  rw [R.2.2.2.2.2.2.1 (Or.inl si)]
  refine M.rk hh ht (k := fun s => wX8_takeNamed_44 D s k) (fun y' g' => absurd g' (g y')) (fun g' => ?_)
  unfold wX8_takeNamed_44
  rw [R.2.2.2.2.2.1]
  exact ⟨fun z => absurd z (by decide), fun _ => n1 _ hk⟩
theorem R_tkn1 (K : Tks T n N te so va pl) (hi : 0 ≤ i ∧ i < N) (R : RTk T n te so va pl D i) (si : ¬ so i = 2) : ∃ D', FLr D D' (msf (so i)) (pl i) ∧ ∀ k : Int → St → Prop, k (-1) D' → wX8_takeNamed D t k := by
  have t1 := K.2.2.1 i hi.1 hi.2
  obtain ⟨D', q, n1⟩ := R_od R t1.2.1
  refine ⟨D', q, fun k hk => ?_⟩
  unfold wX8_takeNamed wX8_takeNamed_0
  exact R_isS R t1.2.1 (x := 2) (by unfold srtOK; omega) (by decide) (fun w => absurd w si) (fun w => ⟨fun z => absurd rfl z, fun _ => n1 _ hk⟩)
theorem FO_mk2 {f p : Int} {R1 R2 SR' SR : St} (hb : b = 2 ∨ b = 515) (f1 : 1 ≤ f) (a : offFam S S1 b) (d : offH SR R1 h) (g : FLc S1 S' f p) (w : FLr R1 R2 f p) (o : ∀ a j, ¬ ((a = 18 ∧ 240 * h ≤ j ∧ j < 240 * h + 240) ∨ (28 ≤ a ∧ a ≤ 32 ∧ 120 * h ≤ j ∧ j < 120 * h + 120) ∨ (a = 33 ∧ 360 * h ≤ j ∧ j < 360 * h + 360)) → SR' a j = R2 a j) (o33 : LE33 R2 → LE33 SR') : FO S SR b h S' SR' := by
  obtain ⟨f', p', f1', a1, a2, a3, a4, a5, a6⟩ := FO_mk hb f1 a d g w
  refine ⟨f', p', f1', a1, a2, ?_, ?_, a5, a6.tr ⟨fun a j g => o a j (fun w => g ?_), o33⟩⟩
  · rw [o _ _ (by omega)]; exact a3
  · rw [o _ _ (by omega)]; exact a4
  · unfold inH
    rcases w with w | w | w
    · exact Or.inr (Or.inr (Or.inr (Or.inr (Or.inr (Or.inr (Or.inl w))))))
    · exact Or.inr (Or.inr (Or.inr (Or.inr (Or.inr (Or.inr (Or.inr (Or.inr (Or.inr (Or.inl w)))))))))
    · exact Or.inr (Or.inr (Or.inr (Or.inr (Or.inr (Or.inr (Or.inr (Or.inr (Or.inr (Or.inr (Or.inl w))))))))))
/-- one argument -/
theorem J_arg {k : Int → St → Prop} {P13 : Int → Int → St → Prop} (hb : b = 2 ∨ b = 515) (hh : half01 h) (ht : 0 ≤ t ∧ t < 24) (K : Tks T n N te so va pl) (C : CTk N so va pl S i) (ni : ¬ so i = 0) (R : RTk T n te so va pl D (i + 1)) (M : Md S b D h t) (er : S 1032 13 = r) (hr : 0 ≤ r ∧ r < 24) (hc : 0 ≤ c ∧ c < 4) (hm : m = 0 ∨ m = 1)
    (h1 : ∀ S' D' y, CTk N so va pl S' (i + 1 + 1) → RTk T n te so va pl D' (i + 1 + 1) → aOK D h t y → S' (ty b t + 5) (2 * r + m) = y → D' 18 (2 * (5 * (24 * h + t) + c) + m) = y → (∀ a j, ¬ (a = 1032 ∧ 4 ≤ j ∧ j ≤ 6) → ¬ (a = ty b t + 5 ∧ j = 2 * r + m) → S' a j = S a j) → (∀ a j, ¬ (a = 0 ∧ 4 ≤ j ∧ j ≤ 7) → ¬ (a = 18 ∧ j = 2 * (5 * (24 * h + t) + c) + m) → D' a j = D a j) → (∀ (P : Int → Int → St → Prop) (k' : Int → St → Prop), wX8_is D' 44 (fun x_12 => (x_12 = 0 → wX8_readArguments_57 D' t (5 * (24 * h + t) + c) (m + 1) P k') ∧ (¬ x_12 = 0 → (2 ≤ m + 1 → wX8_readArguments_57 D' t (5 * (24 * h + t) + c) (m + 1) P k') ∧ (m + 1 < 2 → wX8_readArguments_58 D' t (5 * (24 * h + t) + c) (m + 1) 1 P k'))) → wX8_readArguments_9_b D t (5 * (24 * h + t) + c) m 1 P k') → P13 (m + 1) (m + 1) S')
    (h0 : ∀ S' D', FO S D b h S' D' → (∀ (P : Int → Int → St → Prop) (k' : Int → St → Prop), P (m + 1) 0 D' → wX8_readArguments_9_b D t (5 * (24 * h + t) + c) m 1 P k') → k 0 S') : wX4_readArguments_31 S m P13 k := by
  have N4 := K.1.2
  have h01 : 0 ≤ h ∧ h ≤ 1 := by unfold half01 at hh; omega
  unfold wX4_readArguments_31
  refine C_adv K C ni (fun S1 a1 C1 => ?_)
  have M1 : Md S1 b D h t := M.tr hb ht (mC_Ad a1) (fun _ _ _ _ _ _ => rfl)
  have t2 := K.2.2.1 (i + 1) C1.1.1 C1.1.2
  have er1 : S1 1032 13 = r := by rw [a1 _ _ (by omega)]; exact er
  -- the reference's end of one argument
  have pre : ∀ (y : Int) (D2 D3 : St), D3 = up D2 18 (2 * (5 * (24 * h + t) + c) + m) y → (∀ k : Int → St → Prop, k y D2 → wX8_takeNamed D t k) → ∀ (P : Int → Int → St → Prop) (k' : Int → St → Prop), wX8_is D3 44 (fun x_12 => (x_12 = 0 → wX8_readArguments_57 D3 t (5 * (24 * h + t) + c) (m + 1) P k') ∧ (¬ x_12 = 0 → (2 ≤ m + 1 → wX8_readArguments_57 D3 t (5 * (24 * h + t) + c) (m + 1) P k') ∧ (m + 1 < 2 → wX8_readArguments_58 D3 t (5 * (24 * h + t) + c) (m + 1) 1 P k'))) → wX8_readArguments_9_b D t (5 * (24 * h + t) + c) m 1 P k' := by
    intro y D2 D3 e3 n2 P k' hk
    unfold wX8_readArguments_9_b wX8_goesOn wX8_goesOn_0
    refine ⟨fun z => absurd z (by decide), fun _ => ⟨fun z => absurd R.2.2.2.2.2.2.2 z, fun _ => ⟨fun z => absurd z (by decide), fun _ => n2 _ ?_⟩⟩⟩
    rw [w32_eq (x := 2 * (5 * (24 * h + t) + c)) (by omega) (by omega), w32_eq (x := 2 * (5 * (24 * h + t) + c) + m) (by omega) (by omega), w32_eq (x := m + 1) (by omega) (by omega)]
    refine ⟨by omega, fun A ea x ex => ?_⟩
    rw [ex, ea, ← e3]
    exact hk
  have bad : ∀ (f : Int) (D2 : St), 1 ≤ f → FLr D D2 f (pl (i + 1)) → (∀ k : Int → St → Prop, k (-1) D2 → wX8_takeNamed D t k) → ∀ S2, FLc S1 S2 f (pl (i + 1)) → k 0 S2 := by
    intro f D2 f1 w2 n2 S2 g2
    obtain ⟨D3, e3⟩ : ∃ D3, D3 = up D2 18 (2 * (5 * (24 * h + t) + c) + m) (-1) := ⟨_, rfl⟩
    have met : ¬ D3 0 8 = 0 := by rw [e3, up_n _ (by omega), w2.1]; omega
    refine h0 S2 D3 (FO_mk2 hb f1 (offFam_Ad hb a1) (offH_0 (fun _ _ _ => rfl)) g2 w2 (fun a j g => by rw [e3, up_n _ (by omega)]) (fun w j => by rw [e3, up_n _ (by omega)]; exact w j)) (fun P k' hk => pre (-1) D2 D3 e3 n2 P k' (R_is_no met ⟨fun _ => ?_, fun z => absurd rfl z⟩))
    unfold wX8_readArguments_57 wX8_readArguments_58
    exact ⟨fun _ => hk, fun z => absurd rfl z⟩
  rw [C1.2.2.2.2.2.2.1, C1.2.2.2.2.2.2.2]
  refine ⟨fun si => ?_, fun si => M1.ck hb ht (fun y g => ?_) (fun g => ?_)⟩
  · unfold wX4_readArguments_56
    rw [C1.2.2.2.2.2.2.1]
    obtain ⟨D2, w2, n2⟩ := R_tkn1 (t := t) K C1.1 R si
    exact ⟨fun z => absurd rfl z, fun _ => ⟨fun _ => C_misf N4 C1 (fun S2 g2 => ⟨Or.inl rfl, bad _ D2 (msf_pos _) w2 n2 S2 g2⟩), fun z => absurd z si⟩⟩
  · have y0 := kdN_pos g
    unfold wX4_readArguments_56
    rw [er1, w32_eq (x := m + 1) (by omega) (by omega)]
    refine ⟨fun _ x ex => ?_, fun z => by omega⟩
    rw [M1.1.1.2.2.2.2] at ex
    rw [ex]
    refine ⟨isO_t hb ht, ?_⟩
    unfold wX6_setArgument wX6_setArgument_0
    rw [w32_eq (x := r * 2) (by omega) (by omega), w32_eq (x := r * 2 + m) (by omega) (by omega)]
    refine ⟨by omega, fun S2 e2 x2 ex2 => ?_⟩
    have C2 : CTk N so va pl S2 (i + 1) := C1.off (fun a j g => by rw [e2, up_n _ (by unfold ty; omega)])
    obtain ⟨D2, ⟨r2, o2⟩, n2⟩ := R_tkn hh ht K C1.1 R M1 si g
    obtain ⟨D3, e3⟩ : ∃ D3, D3 = up D2 18 (2 * (5 * (24 * h + t) + c) + m) y := ⟨_, rfl⟩
    refine C_adv K C2 (by omega) (fun S3 a3 C3 x3 ex3 => ?_)
    rw [ex2, ex3]
    refine h1 S3 D3 y C3 (r2.off (fun a j g => by rw [e3, up_n _ (by omega)])) (kdN_aOK g) ?_ ?_ (fun a j g1 g2 => ?_) (fun a j g1 g2 => ?_) (pre y D2 D3 e3 n2)
    · rw [a3 _ _ (by unfold ty; omega), e2, show 2 * r + m = r * 2 + m by omega, up_s]
    · rw [e3, up_s]
    · rw [a3 _ _ g1, e2, up_n _ (by omega), a1 _ _ g1]
    · rw [e3, up_n _ (by omega), o2 _ _ g1]
  · unfold wX4_readArguments_56
    rw [C1.2.2.2.2.2.2.1]
    obtain ⟨D2, w2, n2⟩ := R_tkn0 hh ht K C1.1 R M1 si g
    exact ⟨fun z => absurd rfl z, fun _ => ⟨fun z => absurd si z, fun _ => C_fl N4 C1 (fun S2 g2 => ⟨Or.inl rfl, bad _ D2 (by decide) w2 n2 S2 g2⟩)⟩⟩
end Args
