/-! pure: reading: a member's kinds, both together -/
def KQ (D : St) (x1 x2 x3 x4 x5 x6 x7 : Int) (k : St → Prop) : Prop := wX8_take D 40 (fun S_16 => wX8_goesOn S_16 (fun x_18 => (x_18 = 0 → wX8_readMember_205 S_16 x1 x2 x3 x4 x5 x6 x7 0 0 k) ∧ (¬ x_18 = 0 → (S_16 0 5 = 41 → wX8_readMember_205 S_16 x1 x2 x3 x4 x5 x6 x7 0 0 k) ∧ (¬ S_16 0 5 = 41 → wX8_readMember_205 S_16 x1 x2 x3 x4 x5 x6 x7 0 1 k))))
def KEd (D : St) (x1 x2 x3 x4 x5 x6 x7 x8 : Int) (k : St → Prop) : Prop := wX8_take D 59 (fun S_4 => wX8_goesOn S_4 (fun x_5 => (x_5 = 0 → k S_4) ∧ (¬ x_5 = 0 → (0 ≤ x7 ∧ x7 < 240) ∧ (∀ S_8 : St, S_8 = up S_4 28 x7 x1 → (x4 < 0 → (x3 = 0 → wX8_readMember_323 S_8 x2 x3 x5 x6 x7 x8 x7 1 k) ∧ (¬ x3 = 0 → wX8_readMember_323 S_8 x2 x3 x5 x6 x7 x8 x7 3 k)) ∧ (0 ≤ x4 → wX8_readMember_323 S_8 x2 x3 x5 x6 x7 x8 x7 x4 k)))))
section Mem5
variable {T te so va pl : Int → Int} {n N i b h t m q x1 x2 x3 x4 x5 x6 x7 x8 : Int} {S D S' D' S1 D1 : St}
theorem KEd_no {k : St → Prop} (g : ¬ D 0 8 = 0) (hk : k D) : KEd D x1 x2 x3 x4 x5 x6 x7 x8 k := by
  unfold KEd wX8_goesOn wX8_goesOn_0
  exact R_take_no g ⟨fun _ => ⟨fun _ => hk, fun z => absurd rfl z⟩, fun z => absurd z g⟩
theorem R_271 {k : St → Prop} (hk : wX8_take D 41 (fun S => KEd S x1 x2 x3 x4 x5 x6 x7 x8 k)) : wX8_readMember_271 D x1 x2 x3 x4 x5 x6 x7 x8 k := hk
theorem R_kend {k : St → Prop} (hk : wX8_take D 41 (fun S => KEd S x1 x2 x3 x4 x5 x6 x7 q k)) : wX8_readMember_205 D x1 x2 x3 x4 x5 x6 x7 q 0 k := by
  unfold wX8_readMember_205
  refine wlp_exit (fun P => ?_)
  show wX8_readMember_205_b D x1 x2 x3 x4 x5 x6 x7 q 0 (fun b0 b1 b2 => P (b0, b1, b2)) k
  unfold wX8_readMember_205_b
  exact ⟨fun _ => R_271 hk, fun z => absurd rfl z⟩
theorem R_kstep {k : St → Prop} {q' y : Int} (hs : ∀ P : Int → Int → St → Prop, P q' y D' → wX8_readMember_205_b D x1 x2 x3 x4 x5 x6 x7 q 1 P k) (hk : wX8_readMember_205 D' x1 x2 x3 x4 x5 x6 x7 q' y k) : wX8_readMember_205 D x1 x2 x3 x4 x5 x6 x7 q 1 k := by
  unfold wX8_readMember_205 at hk ⊢
  exact wlp_step (a' := (q', y, D')) (fun P hp => hs (fun b0 b1 b2 => P (b0, b1, b2)) hp) hk
theorem R_rk (hh : half01 h) (ht : 0 ≤ t ∧ t < 24) (K : Tks T n N te so va pl) (hi : 0 ≤ i ∧ i < N) (R : RTk T n te so va pl D i) (M : Md S b D h t) {y : Int} (g : (so i = 212 ∧ y = -3) ∨ (so i = 2 ∧ kdN D h t (va i) y)) : ∃ D', (RTk T n te so va pl D' (i + 1) ∧ offN D D') ∧ ∀ k : Int → St → Prop, k y D' → wX8_readKind D t k := by
  have t1 := K.2.2.1 i hi.1 hi.2
  rcases g with ⟨s, ey⟩ | ⟨s, g⟩
  · obtain ⟨D', w, n1⟩ := R_nx K hi R (by omega)
    refine ⟨D', w, fun k hk => ?_⟩
    unfold wX8_readKind wX8_readKind_0
    refine R_isS R t1.2.1 (x := 212) (by unfold srtOK; omega) (by decide) (fun w => ⟨fun z => absurd z (by decide), fun _ => n1 _ ?_⟩) (fun w => absurd s w)
    rw [← ey]; exact hk
  · obtain ⟨D', w, n1⟩ := R_tkn hh ht K hi R M s g
    refine ⟨D', w, fun k hk => ?_⟩
    unfold wX8_readKind wX8_readKind_0
    exact R_isS R t1.2.1 (x := 212) (by unfold srtOK; omega) (by decide) (fun w => by omega) (fun w => ⟨fun _ => n1 _ hk, fun z => absurd rfl z⟩)
theorem R_rk0 (hh : half01 h) (ht : 0 ≤ t ∧ t < 24) (K : Tks T n N te so va pl) (hi : 0 ≤ i ∧ i < N) (R : RTk T n te so va pl D i) (M : Md S b D h t) (s : so i = 2) (g : ∀ y, ¬ kdN D h t (va i) y) : ∃ D', FLr D D' 3 (pl i) ∧ ∀ k : Int → St → Prop, k (-1) D' → wX8_readKind D t k := by
  have t1 := K.2.2.1 i hi.1 hi.2
  obtain ⟨D', w, n1⟩ := R_tkn0 hh ht K hi R M s g
  refine ⟨D', w, fun k hk => ?_⟩
  unfold wX8_readKind wX8_readKind_0
  exact R_isS R t1.2.1 (x := 212) (by unfold srtOK; omega) (by decide) (fun w => by omega) (fun w => ⟨fun _ => n1 _ hk, fun z => absurd rfl z⟩)
theorem R_rk1 (K : Tks T n N te so va pl) (hi : 0 ≤ i ∧ i < N) (R : RTk T n te so va pl D i) (s : ¬ so i = 2) (s2 : ¬ so i = 212) : ∃ D', FLr D D' (msf (so i)) (pl i) ∧ ∀ k : Int → St → Prop, k (-1) D' → wX8_readKind D t k := by
  have t1 := K.2.2.1 i hi.1 hi.2
  obtain ⟨D', w, n1⟩ := R_tkn1 (t := t) K hi R s
  refine ⟨D', w, fun k hk => ?_⟩
  unfold wX8_readKind wX8_readKind_0
  exact R_isS R t1.2.1 (x := 212) (by unfold srtOK; omega) (by decide) (fun w => absurd w s2) (fun w => ⟨fun _ => n1 _ hk, fun z => absurd rfl z⟩)
theorem le_y {y : Int} (g : y = -3 ∨ aOK D h t y) (t24 : t < 24) (v2 : D 13 (24 * h + t) ≤ 2) : y ≤ 101 := by
  unfold aOK at g
  omega
theorem le_row {D6 S6 : St} (ar : ∀ z, 0 ≤ z → z < q → (D6 33 (3 * (120 * h + m) + z) = -3 ∨ aOK D h t (D6 33 (3 * (120 * h + m) + z))) ∧ S6 (me b m + 1) z = D6 33 (3 * (120 * h + m) + z)) (fr : ∀ j, ¬ (3 * (120 * h + m) ≤ j ∧ j < 3 * (120 * h + m) + q) → D6 33 j = D 33 j) (t24 : t < 24) (v2 : D 13 (24 * h + t) ≤ 2) (w : LE33 D) (j : Int) : D6 33 j ≤ 101 := by
  by_cases c : 3 * (120 * h + m) ≤ j ∧ j < 3 * (120 * h + m) + q
  · have := (ar (j - 3 * (120 * h + m)) (by omega) (by omega)).1
    rw [show 3 * (120 * h + m) + (j - 3 * (120 * h + m)) = j by omega] at this
    exact le_y this t24 v2
  · rw [fr j c]; exact w j
/-- one kind -/
theorem J_kind {A k0 : St → Prop} (hb : b = 2 ∨ b = 515) (hh : half01 h) (ht : 0 ≤ t ∧ t < 24) (K : Tks T n N te so va pl) (C : CTk N so va pl S i) (R : RTk T n te so va pl D i) (M : Mb S b D h t m) (hm : m < 120) (hq : q = 0 ∨ q = 1)
    (h1 : ∀ S' D' y, CTk N so va pl S' (i + 1) → RTk T n te so va pl D' (i + 1) → (y = -3 ∨ aOK D h t y) → S' (me b m + 1) q = y → S' (me b m) 4 = q + 1 → D' 33 (3 * (120 * h + m) + q) = y → (∀ z j, ¬ (z = 1032 ∧ 4 ≤ j ∧ j ≤ 6) → ¬ (z = me b m + 1 ∧ j = q) → ¬ (z = me b m ∧ j = 4) → S' z j = S z j) → (∀ z j, ¬ (z = 0 ∧ 4 ≤ j ∧ j ≤ 7) → ¬ (z = 33 ∧ j = 3 * (120 * h + m) + q) → D' z j = D z j) → (∀ (P : Int → Int → St → Prop) (k' : St → Prop), wX8_is D' 44 (fun x_12 => (x_12 = 0 → wX8_readMember_256 D' t x2 x3 x4 x5 x6 (120 * h + m) (q + 1) P k') ∧ (¬ x_12 = 0 → (2 ≤ q + 1 → wX8_readMember_256 D' t x2 x3 x4 x5 x6 (120 * h + m) (q + 1) P k') ∧ (q + 1 < 2 → wX8_readMember_257 D' t x2 x3 x4 x5 x6 (120 * h + m) (q + 1) 1 P k'))) → wX8_readMember_205_b D t x2 x3 x4 x5 x6 (120 * h + m) q 1 P k') → A S')
    (h0 : ∀ S' D', FO S D b h S' D' → (∀ (P : Int → Int → St → Prop) (k' : St → Prop), P (q + 1) 0 D' → wX8_readMember_205_b D t x2 x3 x4 x5 x6 (120 * h + m) q 1 P k') → k0 S') :
    wX4_seesKind S q (fun x_4 S_4 => (¬ x_4 = 0 → ∀ x_6 : Int, x_6 = S_4 1032 14 → isO 3 x_6 ∧ (∀ S_9 : St, S_9 = up S_4 x_6 4 (w32 (q + 1)) → wX4_advance S_9 (fun S_10 => A S_10))) ∧ (x_4 = 0 → k0 S_4)) := by
  have N4 := K.1.2
  have h01 : 0 ≤ h ∧ h ≤ 1 := by unfold half01 at hh; omega
  have hm' := M.2.2.1
  have ix := isO_m hb hm'
  have pre : ∀ (y : Int) (D2 D3 : St), D3 = up D2 33 (3 * (120 * h + m) + q) y → (∀ k : Int → St → Prop, k y D2 → wX8_readKind D t k) → ∀ (P : Int → Int → St → Prop) (k' : St → Prop), wX8_is D3 44 (fun x_12 => (x_12 = 0 → wX8_readMember_256 D3 t x2 x3 x4 x5 x6 (120 * h + m) (q + 1) P k') ∧ (¬ x_12 = 0 → (2 ≤ q + 1 → wX8_readMember_256 D3 t x2 x3 x4 x5 x6 (120 * h + m) (q + 1) P k') ∧ (q + 1 < 2 → wX8_readMember_257 D3 t x2 x3 x4 x5 x6 (120 * h + m) (q + 1) 1 P k'))) → wX8_readMember_205_b D t x2 x3 x4 x5 x6 (120 * h + m) q 1 P k' := by
    intro y D2 D3 e3 n2 P k' hk
    unfold wX8_readMember_205_b wX8_goesOn wX8_goesOn_0
    refine ⟨fun z => absurd z (by decide), fun _ => ⟨fun z => absurd R.2.2.2.2.2.2.2 z, fun _ => ⟨fun z => absurd z (by decide), fun _ => n2 _ ?_⟩⟩⟩
    rw [w32_eq (x := 3 * (120 * h + m)) (by omega) (by omega), w32_eq (x := 3 * (120 * h + m) + q) (by omega) (by omega), w32_eq (x := q + 1) (by omega) (by omega)]
    refine ⟨by omega, fun A' ea x ex => ?_⟩
    rw [ex, ea, ← e3]
    exact hk
  have bad : ∀ (f : Int) (D2 S0 : St), 1 ≤ f → fM S S0 b m → FLr D D2 f (pl i) → (∀ k : Int → St → Prop, k (-1) D2 → wX8_readKind D t k) → ∀ S2, FLc S0 S2 f (pl i) → k0 S2 := by
    intro f D2 S0 f1 o0 w2 n2 S2 g2
    obtain ⟨D3, e3⟩ : ∃ D3, D3 = up D2 33 (3 * (120 * h + m) + q) (-1) := ⟨_, rfl⟩
    have met : ¬ D3 0 8 = 0 := by rw [e3, up_n _ (by omega), w2.1]; omega
    refine h0 S2 D3 (FO_mk2 hb f1 (offFam_m hb hm' o0) (offH_0 (fun _ _ _ => rfl)) g2 w2 (fun a j g => by rw [e3, up_n _ (by omega)]) (fun w j => by
      by_cases cj : j = 3 * (120 * h + m) + q
      · rw [e3, cj, up_s]; decide
      · rw [e3, up_n _ (by omega)]; exact w j)) (fun P k' hk => pre (-1) D2 D3 e3 n2 P k' (R_is_no met ⟨fun _ => ?_, fun z => absurd rfl z⟩))
    unfold wX8_readMember_256 wX8_readMember_257
    exact ⟨fun _ => hk, fun z => absurd rfl z⟩
  refine C_sk hb ht K C M (by omega) (fun S1 y hy e1 => ⟨fun _ x ex => ?_, fun w => absurd w (by decide)⟩) (fun s2 g S1 g1 => ⟨fun w => absurd rfl w, fun _ => ?_⟩) (fun n2 n212 S1 g1 => ⟨fun w => absurd rfl w, fun _ => ?_⟩)
  · have s14 : S1 1032 14 = me b m := by rw [e1, up_n _ (by unfold me; omega)]; exact M.2.1
    rw [s14] at ex
    rw [ex, w32_eq (x := q + 1) (by omega) (by omega)]
    refine ⟨ix, fun S2 e2 => ?_⟩
    have C2 : CTk N so va pl S2 i := C.off (fun a j g => by rw [e2, up_n _ (by unfold me; omega), e1, up_n _ (by unfold me; omega)])
    have ni : ¬ so i = 0 := by
      rcases hy with w | w
      · omega
      · have := w.1; omega
    obtain ⟨D2, ⟨r2, o2⟩, n2⟩ := R_rk hh ht K C.1 R M.1 hy
    obtain ⟨D3, e3⟩ : ∃ D3, D3 = up D2 33 (3 * (120 * h + m) + q) y := ⟨_, rfl⟩
    refine C_adv K C2 ni (fun S3 a3 C3 => h1 S3 D3 y C3 (r2.off (fun a j g => by rw [e3, up_n _ (by omega)])) ?_ ?_ ?_ (by rw [e3, up_s]) (fun z j g1 g2 g3 => ?_) (fun z j g1 g2 => ?_) (pre y D2 D3 e3 n2))
    · rcases hy with w | w
      · exact Or.inl w.2
      · exact Or.inr (kdN_aOK w.2)
    · rw [a3 _ _ (by unfold me; omega), e2, up_n _ (by omega), e1, up_s]
    · rw [a3 _ _ (by unfold me; omega), e2, up_s]
    · rw [a3 _ _ g1, e2, up_n _ (by omega), e1, up_n _ (by omega)]
    · rw [e3, up_n _ (by omega), o2 _ _ g1]
  · obtain ⟨D2, w2, n2⟩ := R_rk0 hh ht K C.1 R M.1 s2 g
    exact bad 3 D2 _ (by decide) (fun z j g1 g2 => by rw [up_n _ (by omega)]) w2 n2 S1 g1
  · obtain ⟨D2, w2, n2'⟩ := R_rk1 (t := t) K C.1 R n2 n212
    exact bad _ D2 S (msf_pos _) (fun _ _ _ _ => rfl) w2 n2' S1 g1
theorem J_kinds {k : Int → St → Prop} (hb : b = 2 ∨ b = 515) (hh : half01 h) (ht : 0 ≤ t ∧ t < 24) (K : Tks T n N te so va pl) (C : CTk N so va pl S i) (R : RTk T n te so va pl D i) (M : Mb S b D h t m) (hm : m < 120) (c4 : S (me b m) 4 = 0)
    (h1 : ∀ S' D' j q, i ≤ j → (0 ≤ q ∧ q ≤ 2) → CTk N so va pl S' j → RTk T n te so va pl D' j → S' (me b m) 4 = q → (∀ z, 0 ≤ z → z < q → (D' 33 (3 * (120 * h + m) + z) = -3 ∨ aOK D h t (D' 33 (3 * (120 * h + m) + z))) ∧ S' (me b m + 1) z = D' 33 (3 * (120 * h + m) + z)) → (∀ z j, ¬ (z = 1032 ∧ 4 ≤ j ∧ j ≤ 6) → ¬ (z = me b m + 1 ∧ 0 ≤ j ∧ j < q) → ¬ (z = me b m ∧ j = 4) → S' z j = S z j) → (∀ z j, ¬ (z = 0 ∧ 4 ≤ j ∧ j ≤ 7) → ¬ (z = 33 ∧ 3 * (120 * h + m) ≤ j ∧ j < 3 * (120 * h + m) + q) → D' z j = D z j) → (∀ k' : St → Prop, KEd D' t x2 x3 x4 x5 x6 (120 * h + m) q k' → KQ D t x2 x3 x4 x5 x6 (120 * h + m) k') → k 1 S')
    (h0 : ∀ S' D', FO S D b h S' D' → (∀ k' : St → Prop, k' D' → KQ D t x2 x3 x4 x5 x6 (120 * h + m) k') → k 0 S') : wX4_readKinds S k := by
  have N4 := K.1.2
  have h01 : 0 ≤ h ∧ h ≤ 1 := by unfold half01 at hh; omega
  have hm' := M.2.2.1
  unfold wX4_readKinds wX4_readKinds_0
  have dead : ∀ (y : Int) (D9 : St), ¬ D9 0 8 = 0 → ∀ (k' : St → Prop), k' D9 → wX8_readMember_205 D9 t x2 x3 x4 x5 x6 (120 * h + m) y 0 k' := fun y D9 g k' hk => R_kend (R_take_no g (KEd_no g hk))
  refine J_take K C R (x := 40) (y := 40) (by unfold srtOK; omega) (by decide) (by decide) (fun _ S1 D1 a1 C1 o1 r1 n1 => ⟨fun _ => ?_, fun z => absurd z (by decide)⟩) (fun S1 D1 g1 f1 n1 => ⟨fun z => absurd rfl z, fun _ => ?_⟩)
  rotate_left
  · have fo : FO S D b h S1 D1 := FO_mk hb (msf_pos _) (S1 := S) (R1 := D) (offFam_rd hb (fun _ _ _ => rfl)) (offH_0 (fun _ _ _ => rfl)) g1 f1
    have met := FO_met fo
    refine h0 S1 D1 fo (fun k' hk => ?_)
    unfold KQ
    refine n1 _ ?_
    unfold wX8_goesOn wX8_goesOn_0
    exact ⟨fun _ => ⟨fun _ => dead 0 D1 met k' hk, fun z => absurd rfl z⟩, fun z => absurd z met⟩
  · have t1 := K.2.2.1 (i + 1) C1.1.1 C1.1.2
    have M1 : Mb S1 b D1 h t m := M.tr hb ht (fM_Ad a1) (gM_N o1)
    have d41 : D1 0 5 = 41 ↔ so (i + 1) = 41 := by
      rw [r1.2.2.2.2.1]
      have := rsrt_inj t1.2.1 (y := 41) (by unfold srtOK; omega)
      rw [show rsrt 41 = 41 by decide] at this; exact this
    have run1 : ∀ (y : Int) (k' : St → Prop), (so (i + 1) = 41 ∧ y = 0) ∨ (¬ so (i + 1) = 41 ∧ y = 1) → wX8_readMember_205 D1 t x2 x3 x4 x5 x6 (120 * h + m) 0 y k' → KQ D t x2 x3 x4 x5 x6 (120 * h + m) k' := by
      intro y k' hy hk
      unfold KQ
      refine n1 _ ?_
      unfold wX8_goesOn wX8_goesOn_0
      refine ⟨fun z => absurd r1.2.2.2.2.2.2.2 z, fun _ => ⟨fun z => absurd z (by decide), fun _ => ⟨fun z => ?_, fun z => ?_⟩⟩⟩
      · have : y = 0 := by have := d41.mp z; omega
        rw [this] at hk; exact hk
      · have : y = 1 := by have : ¬ so (i + 1) = 41 := fun w => z (d41.mpr w); omega
        rw [← this]; exact hk
    -- behind the last kind
    have endq : ∀ S6 D6 j q, i ≤ j → (0 ≤ q ∧ q ≤ 2) → CTk N so va pl S6 j → RTk T n te so va pl D6 j → S6 (me b m) 4 = q → (∀ z, 0 ≤ z → z < q → (D6 33 (3 * (120 * h + m) + z) = -3 ∨ aOK D h t (D6 33 (3 * (120 * h + m) + z))) ∧ S6 (me b m + 1) z = D6 33 (3 * (120 * h + m) + z)) → (∀ z j, ¬ (z = 1032 ∧ 4 ≤ j ∧ j ≤ 6) → ¬ (z = me b m + 1 ∧ 0 ≤ j ∧ j < q) → ¬ (z = me b m ∧ j = 4) → S6 z j = S z j) → (∀ z j, ¬ (z = 0 ∧ 4 ≤ j ∧ j ≤ 7) → ¬ (z = 33 ∧ 3 * (120 * h + m) ≤ j ∧ j < 3 * (120 * h + m) + q) → D6 z j = D z j) → (∀ k' : St → Prop, wX8_readMember_205 D6 t x2 x3 x4 x5 x6 (120 * h + m) q 0 k' → KQ D t x2 x3 x4 x5 x6 (120 * h + m) k') → wX4_readKinds_95 S6 k := by
      intro S6 D6 j q ij hq C6 r6 e4 ar fc fr run6
      unfold wX4_readKinds_95
      refine J_take K C6 r6 (x := 41) (y := 41) (by unfold srtOK; omega) (by decide) (by decide) (fun _ S7 D7 a7 C7 o7 r7 n7 => ⟨Or.inr rfl, ?_⟩) (fun S7 D7 g7 f7 n7 => ⟨Or.inl rfl, ?_⟩)
      · refine h1 S7 D7 (j + 1) q (by omega) hq C7 r7 ?_ (fun z z0 z1 => ?_) (fun a j g1 g2 g3 => ?_) (fun a j g1 g2 => ?_) (fun k' hk => run6 k' (R_kend (n7 _ hk)))
        · rw [a7 _ _ (by unfold me; omega)]; exact e4
        · rw [o7 _ _ (by omega), a7 _ _ (by unfold me; omega)]; exact ar z z0 z1
        · rw [a7 _ _ g1]; exact fc a j g1 g2 g3
        · rw [o7 _ _ g1]; exact fr a j g1 g2
      · have fo : FO S D b h S7 D7 := FO_mk hb (msf_pos _) (offFam_m hb hm' (m := m) (fun a j g1 g2 => fc a j g1 (by omega) (by omega))) (offH_m (m := m) ⟨hm'.1, hm⟩ (fun a j g1 g2 g3 => fr a j g1 (by omega)) (fun w j => le_row ar (fun j' g => fr 33 j' (by omega) (by omega)) ht.2 M.1.2.2.2.2 w j)) g7 f7
        exact h0 S7 D7 fo (fun k' hk => run6 k' (R_kend (n7 _ (KEd_no (FO_met fo) hk))))
    rw [C1.2.2.2.2.2.2.1]
    refine ⟨fun s41 => ?_, fun s41 => ?_⟩
    · unfold wX4_readKinds_28
      refine ⟨1, ?_⟩
      show wX4_readKinds_28_b S1 0 0 (fun b0 b1 b2 => itP (fun (P : Int × Int × St → Prop) (a : Int × Int × St) => wX4_readKinds_28_b a.2.2 a.1 a.2.1 (fun b0 b1 b2 => P (b0, b1, b2)) k) 0 (b0, b1, b2)) k
      unfold wX4_readKinds_28_b
      refine ⟨fun z => absurd z (by decide), fun _ => ⟨fun _ => endq S1 D1 (i + 1) 0 (by omega) (by decide) C1 r1 ?_ (fun z z0 z1 => by omega) (fun z j g1 _ _ => a1 z j g1) (fun z j g1 _ => o1 z j g1) (fun k' hk => run1 0 k' (Or.inl ⟨s41, rfl⟩) hk), fun z => absurd rfl z⟩⟩
      rw [a1 _ _ (by unfold me; omega)]; exact c4
    · unfold wX4_readKinds_28
      refine ⟨3, ?_⟩
      show wX4_readKinds_28_b S1 1 0 (fun b0 b1 b2 => itP (fun (P : Int × Int × St → Prop) (a : Int × Int × St) => wX4_readKinds_28_b a.2.2 a.1 a.2.1 (fun b0 b1 b2 => P (b0, b1, b2)) k) 2 (b0, b1, b2)) k
      unfold wX4_readKinds_28_b
      refine ⟨fun z => absurd z (by decide), fun _ => ⟨fun z => absurd z (by decide), fun _ => ?_⟩⟩
      refine J_kind (q := 0) (x2 := x2) (x3 := x3) (x4 := x4) (x5 := x5) (x6 := x6) hb hh ht K C1 r1 M1 hm (Or.inl rfl) (fun S2 D2 y C2 r2 ok2 cy ce dy fc2 fr2 run2 => ⟨fun z => absurd z (by decide), fun _ => ?_⟩) (fun S2 D2 fo run2 => ?_)
      · have e01 : (0 : Int) + 1 = 1 := rfl
        rw [e01] at run2 ce
        have t2 := K.2.2.1 (i + 1 + 1) C2.1.1 C2.1.2
        have aoD : ∀ z, aOK D1 h t z → aOK D h t z := fun z g => by unfold aOK at g ⊢; rw [o1 _ _ (by omega)] at g; exact g
        have ok2' : y = -3 ∨ aOK D h t y := by
          rcases ok2 with w | w
          · exact Or.inl w
          · exact Or.inr (aoD y w)
        rw [C2.2.2.2.2.2.2.1]
        refine ⟨fun s44 => ?_, fun s44 => ?_⟩
        · unfold wX4_readKinds_79 wX4_readKinds_80
          refine ⟨fun _ x ex => ?_, fun z => absurd rfl z⟩
          rw [ex, w32_eq (by decide) (by decide)]
          show wX4_readKinds_28_b S2 0 1 (fun b0 b1 b2 => itP (fun (P : Int × Int × St → Prop) (a : Int × Int × St) => wX4_readKinds_28_b a.2.2 a.1 a.2.1 (fun b0 b1 b2 => P (b0, b1, b2)) k) 1 (b0, b1, b2)) k
          unfold wX4_readKinds_28_b
          refine ⟨fun z => absurd z (by decide), fun _ => ⟨fun _ => endq S2 D2 (i + 1 + 1) 1 (by omega) (by decide) C2 r2 ce (fun z z0 z1 => ?_) (fun a j g1 g2 g3 => ?_) (fun a j g1 g2 => ?_) (fun k' hk => run1 1 k' (Or.inr ⟨s41, rfl⟩) (R_kstep (q' := 1) (y := 0) (fun P hp => run2 P _ (R_isS r2 t2.2.1 (x := 44) (by unfold srtOK; omega) (by decide) (fun w => absurd w s44) (fun w => ⟨fun _ => ?_, fun z => absurd rfl z⟩))) hk)), fun z => absurd rfl z⟩⟩
          · have : z = 0 := by omega
            rw [this, cy, dy]; exact ⟨ok2', rfl⟩
          · rw [fc2 a j g1 (by omega) g3]; exact a1 a j g1
          · rw [fr2 a j g1 (by omega)]; exact o1 a j g1
          · unfold wX8_readMember_256 wX8_readMember_257
            exact ⟨fun _ => hp, fun z => absurd rfl z⟩
        · obtain ⟨D3, ⟨r3, o3⟩, n3⟩ := R_nx K C2.1 r2 (by omega)
          unfold wX4_readKinds_80
          refine ⟨fun z => absurd z (by decide), fun _ => C_adv K C2 (by omega) (fun S3 a3 C3 x ex => ?_)⟩
          rw [ex, w32_eq (by decide) (by decide)]
          have M3 : Mb S3 b D3 h t m := M1.tr hb ht (fun a j g1 g2 => by rw [a3 a j g1, fc2 a j g1 (by omega) (by omega)]) (fun a j g1 g2 g3 => by rw [o3 a j g1, fr2 a j g1 (by omega)])
          have run3 : ∀ k' : St → Prop, wX8_readMember_205 D3 t x2 x3 x4 x5 x6 (120 * h + m) 1 1 k' → KQ D t x2 x3 x4 x5 x6 (120 * h + m) k' := by
            intro k' hk
            refine run1 1 k' (Or.inr ⟨s41, rfl⟩) (R_kstep (q' := 1) (y := 1) (D' := D3) (fun P hp => run2 P _ (R_isS r2 t2.2.1 (x := 44) (by unfold srtOK; omega) (by decide) (fun w => ⟨fun z => absurd z (by decide), fun _ => ⟨fun z => absurd z (by decide), fun _ => ?_⟩⟩) (fun w => absurd s44 w))) hk)
            unfold wX8_readMember_257
            exact ⟨fun z => absurd z (by decide), fun _ => n3 _ hp⟩
          show wX4_readKinds_28_b S3 1 1 (fun b0 b1 b2 => itP (fun (P : Int × Int × St → Prop) (a : Int × Int × St) => wX4_readKinds_28_b a.2.2 a.1 a.2.1 (fun b0 b1 b2 => P (b0, b1, b2)) k) 1 (b0, b1, b2)) k
          unfold wX4_readKinds_28_b
          refine ⟨fun z => absurd z (by decide), fun _ => ⟨fun z => absurd z (by decide), fun _ => ?_⟩⟩
          refine J_kind (q := 1) (x2 := x2) (x3 := x3) (x4 := x4) (x5 := x5) (x6 := x6) hb hh ht K C3 r3 M3 hm (Or.inr rfl) (fun S4 D4 y4 C4 r4 ok4 cy4 ce4 dy4 fc4 fr4 run4 => ⟨fun _ => ?_, fun z => absurd z (by decide)⟩) (fun S4 D4 fo run4 => ?_)
          · have e12 : (1 : Int) + 1 = 2 := rfl
            rw [e12] at run4 ce4
            have t4 := K.2.2.1 (i + 1 + 1 + 1 + 1) C4.1.1 C4.1.2
            unfold wX4_readKinds_79 wX4_readKinds_80
            refine ⟨fun _ x' ex' => ?_, fun z => absurd rfl z⟩
            rw [ex', w32_eq (by decide) (by decide)]
            show wX4_readKinds_28_b S4 0 2 (fun b0 b1 b2 => itP (fun (P : Int × Int × St → Prop) (a : Int × Int × St) => wX4_readKinds_28_b a.2.2 a.1 a.2.1 (fun b0 b1 b2 => P (b0, b1, b2)) k) 0 (b0, b1, b2)) k
            unfold wX4_readKinds_28_b
            refine ⟨fun _ => endq S4 D4 (i + 1 + 1 + 1 + 1) 2 (by omega) (by decide) C4 r4 ce4 (fun z z0 z1 => ?_) (fun a j g1 g2 g3 => ?_) (fun a j g1 g2 => ?_) (fun k' hk => run3 k' (R_kstep (q' := 2) (y := 0) (fun P hp => run4 P _ ?_) hk)), fun z => absurd z (by decide)⟩
            · by_cases cz : z = 0
              · rw [cz, fr4 _ _ (by omega) (by omega), fc4 _ _ (by unfold me; omega) (by omega) (by omega), o3 _ _ (by omega), a3 _ _ (by unfold me; omega), cy, dy]
                exact ⟨ok2', rfl⟩
              · have : z = 1 := by omega
                rw [this, cy4, dy4]
                refine ⟨?_, rfl⟩
                rcases ok4 with w | w
                · exact Or.inl w
                · refine Or.inr ?_
                  unfold aOK at w ⊢
                  rw [o3 _ _ (by omega), fr2 _ _ (by omega) (by omega), o1 _ _ (by omega)] at w
                  exact w
            · rw [fc4 a j g1 (by omega) g3, a3 a j g1, fc2 a j g1 (by omega) g3]; exact a1 a j g1
            · rw [fr4 a j g1 (by omega), o3 a j g1, fr2 a j g1 (by omega)]; exact o1 a j g1
            · have e : wX8_readMember_256 D4 t x2 x3 x4 x5 x6 (120 * h + m) 2 P k' := by
                unfold wX8_readMember_256 wX8_readMember_257
                exact ⟨fun _ => hp, fun z => absurd rfl z⟩
              exact R_isS r4 t4.2.1 (x := 44) (by unfold srtOK; omega) (by decide) (fun w => ⟨fun z => absurd z (by decide), fun _ => ⟨fun _ => e, fun z => absurd z (by decide)⟩⟩) (fun w => ⟨fun _ => e, fun z => absurd rfl z⟩)
          · have fo' : FO S D b h S4 D4 := by
              obtain ⟨f, p, f1, b1, b2, b3, b4, b5, b6⟩ := fo
              exact ⟨f, p, f1, b1, b2, b3, b4, (offFam_m hb hm' (m := m) (fun a j g1 g2 => by rw [a3 a j g1, fc2 a j g1 (by omega) (by omega), a1 a j g1])).tr b5, (offH_m (m := m) ⟨hm'.1, hm⟩ (fun a j g1 g2 g3 => by rw [o3 a j g1, fr2 a j g1 (by omega), o1 a j g1]) (fun w j => by
                by_cases cj : j = 3 * (120 * h + m) + 0
                · rw [cj, o3 _ _ (by omega), dy]; exact le_y ok2' ht.2 M.1.2.2.2.2
                · rw [o3 _ _ (by omega), fr2 _ _ (by omega) (by omega), o1 _ _ (by omega)]; exact w j)).tr b6⟩
            exact h0 S4 D4 fo' (fun k' hk => run3 k' (R_kstep (fun P' hp => run4 P' _ hp) (dead _ D4 (FO_met fo') k' hk)))
      · have fo' : FO S D b h S2 D2 := by
          obtain ⟨f, p, f1, b1, b2, b3, b4, b5, b6⟩ := fo
          exact ⟨f, p, f1, b1, b2, b3, b4, (offFam_Ad hb a1).tr b5, (offH_N o1).tr b6⟩
        exact h0 S2 D2 fo' (fun k' hk => run1 1 k' (Or.inr ⟨s41, rfl⟩) (R_kstep (fun P' hp => run2 P' _ hp) (dead _ D2 (FO_met fo') k' hk)))
end Mem5
