/-! pure: reading: a member to its end, both together -/
section Member2
variable {T te so va pl : Int → Int} {n N i b h t m M0 base fc a s wr : Int} {S D S0 D0 : St}
theorem kOK_a {y : Int} {Dx : St} (e : ∀ u, Dx 13 u = D 13 u) (g : y = -3 ∨ aOK Dx h t y) (t0 : 0 ≤ t) : kOK D h t y := by
  unfold aOK at g
  rw [e] at g
  unfold kOK
  omega
theorem kOK_c {y : Int} {Dx : St} (e : ∀ u, Dx 13 u = D 13 u) (g : y = -2 ∨ y = -3 ∨ aOK Dx h t y) (t0 : 0 ≤ t) : kOK D h t y := by
  unfold aOK at g
  rw [e] at g
  unfold kOK
  omega
theorem kOK_102 {y : Int} (g : kOK D h t y) (t24 : t < 24) (v2 : D 13 (24 * h + t) ≤ 2) : y < 102 := by
  unfold kOK at g
  omega
theorem C_mkeep {k : St → Prop} {ac fo q c : Int} {D' : St} (hb : b = 2 ∨ b = 515) (hh : half01 h) (ht : 0 ≤ t ∧ t < 24) (hm : 0 ≤ m ∧ m < 120) (O : Op S0 b D0 h t M0 m base) (C : CTk N so va pl S i) (M : Mb S b D h t m) (oS : oR S0 S b m) (oD : ∀ a j, ¬ (a = 0 ∧ ((4 ≤ j ∧ j ≤ 7) ∨ j = 48)) → ¬ (a = 29 ∧ j = 120 * h + m) → ¬ (a = 33 ∧ 3 * (120 * h + m) ≤ j ∧ j < 3 * (120 * h + m) + q) → D a j = D0 a j) (d25 : D 25 (24 * h + t) < 8) (hq : 0 ≤ q ∧ q ≤ 2)
    (n0 : S (me b m) 0 = D 29 (120 * h + m)) (t1 : S (me b m) 1 = t) (v2 : S (me b m) 2 = ac) (v3 : S (me b m) 3 = fo) (t4 : S (me b m) 4 = q) (kz : ∀ z, 0 ≤ z → z < q → kOK D0 h t (D 33 (3 * (120 * h + m) + z)) ∧ S (me b m + 1) z = D 33 (3 * (120 * h + m) + z)) (ka : ∀ z, q ≤ z → 0 ≤ z → z < 2 → S (me b m + 1) z = -9) (k2c : S (me b m + 1) 2 = c) (cOK : kOK D0 h t c) (fa : D0 11 (24 * h + t) = 2 → ac = 0 ∨ ac = 3) (le : LE33 D) (w : KpR D D' h t m ac fo q c)
    (h1 : ∀ S', CTk N so va pl S' i → Op S' b D' h t M0 (m + 1) base → (∀ a j, ¬ (a = 1032 ∧ ((4 ≤ j ∧ j ≤ 6) ∨ j = 14)) → ¬ (me b m ≤ a ∧ a ≤ me b m + 2) → ¬ (a = ty b t ∧ j = 17) → ¬ (a = b ∧ j = 3) → S' a j = S0 a j) → (∀ a j, ¬ (a = 0 ∧ ((4 ≤ j ∧ j ≤ 7) ∨ j = 48)) → ¬ ((28 ≤ a ∧ a ≤ 32) ∧ j = 120 * h + m) → ¬ (a = 33 ∧ 3 * (120 * h + m) ≤ j ∧ j < 3 * (120 * h + m) + 3) → ¬ (a = 4 ∧ j = h) → ¬ (a = 25 ∧ j = 24 * h + t) → D' a j = D0 a j) → k S') : wX4_keepMember S k := by
  have h01 : 0 ≤ h ∧ h ≤ 1 := by clear fa; unfold half01 at hh; omega
  obtain ⟨Hd1, Kc, Km, Sg, l25, le0⟩ := id O
  have v13 := Hd1.2.2.2.2.1.1
  obtain ⟨⟨w28, w30, w31, w32', w33, w4, w25⟩, wo⟩ := w
  have fa' : D0 11 (24 * h + t) = 2 → D' 30 (120 * h + m) = 0 ∨ D' 30 (120 * h + m) = 3 := by rw [w30]; exact fa
  clear fa
  have e25 : D 25 (24 * h + t) = D0 25 (24 * h + t) := oD _ _ (by omega) (by omega) (by omega)
  have k102 : ∀ z, 0 ≤ z → z ≤ 2 → S (me b m + 1) z < 102 := fun z z0 z2 => by
    by_cases c1 : z < q
    · rw [(kz z z0 c1).2]; exact kOK_102 (kz z z0 c1).1 ht.2 v13.2
    · by_cases c2 : z = 2
      · rw [c2, k2c]; exact kOK_102 cOK ht.2 v13.2
      · rw [ka z (by omega) z0 (by omega)]; decide
  have q17 := M.2.2.2.1.1
  have p25 : 0 ≤ D 25 (24 * h + t) := by rw [e25, Km.2.2.2.2.2.2.1]; have := Km.1; omega
  refine C_keep hb ht hm M.1.1.1.1 M.1.1.1.2.2.2.2 M.2.1 M.2.2.2.1.2.1 (by rw [q17]; exact ⟨p25, d25⟩) k102 (fun S12 g er e7' e17 e3' oc12 sg => ?_)
  have fcS : ∀ a j, ¬ (a = 1032 ∧ ((4 ≤ j ∧ j ≤ 6) ∨ j = 14)) → ¬ (me b m ≤ a ∧ a ≤ me b m + 2) → ¬ (a = ty b t ∧ j = 17) → ¬ (a = b ∧ j = 3) → S12 a j = S0 a j := fun a' j g1 g2 g3 g4 => by rw [oc12 _ _ (by omega) (by omega) g3 g4]; exact oS a' j g1 g2
  have frD : ∀ a j, ¬ (a = 0 ∧ ((4 ≤ j ∧ j ≤ 7) ∨ j = 48)) → ¬ ((28 ≤ a ∧ a ≤ 32) ∧ j = 120 * h + m) → ¬ (a = 33 ∧ 3 * (120 * h + m) ≤ j ∧ j < 3 * (120 * h + m) + 3) → ¬ (a = 4 ∧ j = h) → ¬ (a = 25 ∧ j = 24 * h + t) → D' a j = D0 a j := fun a' j g1 g2 g3 g4 g5 => by rw [wo _ _ (by omega) (by omega) g4 g5]; exact oD a' j g1 (by omega) (by omega)
  have C12 : CTk N so va pl S12 i := C.off (fun z j g => oc12 z j (by unfold me; omega) (by unfold me; omega) (by unfold ty; omega) (by omega))
  have s12k : ∀ z, S12 (me b m + 1) z = S (me b m + 1) z := fun z => oc12 _ _ (by omega) (by omega) (by unfold me ty; omega) (by unfold me; omega)
  have s12x : ∀ z, ¬ z = 7 → S12 (me b m) z = S (me b m) z := fun z g => oc12 _ _ (by omega) (by omega) (by unfold me ty; omega) (by unfold me; omega)
  have dk : ∀ z, 0 ≤ z → z < 2 → D' 33 (3 * (120 * h + m) + z) = D 33 (3 * (120 * h + m) + z) := fun z z0 z1 => wo _ _ (by omega) (by omega) (by omega) (by omega)
  have le' : LE33 D' := fun j => by
    by_cases cj : j = 3 * (120 * h + m) + 2
    · rw [cj, w33]
      have := kOK_102 cOK ht.2 v13.2
      omega
    · rw [wo _ _ (by omega) (by omega) (by omega) (by omega)]; exact le j
  refine h1 S12 C12 (Op_add hb hh ht O hm.2 (by omega) fcS frD ?_ ?_ ?_ ?_ ?_ (fun z z0 z2 => ?_) (fun z z0 z2 => ?_) (by rw [e7']; exact sg) ?_ e3' w28 (by rw [w32']; exact hq) w4 ?_ (fun z z0 z2 zz => ?_) fa' le') fcS frD
  · rw [s12x 0 (by decide), n0, wo _ _ (by omega) (by omega) (by omega) (by omega)]
  · rw [s12x 1 (by decide)]; exact t1
  · rw [s12x 2 (by decide), v2, w30]
  · rw [s12x 3 (by decide), v3, w31]
  · rw [s12x 4 (by decide), t4, w32']
  · rw [s12k z]
    unfold kOr
    rw [w32']
    by_cases c1 : z < 2 ∧ q ≤ z
    · rw [if_pos c1]; exact ka z c1.2 z0 c1.1
    · rw [if_neg c1]
      by_cases c2 : z = 2
      · rw [c2, k2c, w33]
      · rw [(kz z z0 (by omega)).2, dk z z0 (by omega)]
  · rw [er z z0 z2]
    unfold erK
    rw [s12k z, oc12 (ty b t + 2) _ (by unfold me ty; omega) (by unfold me ty; omega) (by omega) (by unfold ty; omega)]
  · rw [e17, oS _ _ (by unfold ty; omega) (by unfold me ty; omega)]
  · rw [w25, e25]
  · rw [w32'] at zz
    by_cases c2 : z = 2
    · rw [c2, w33]; exact cOK
    · rw [dk z z0 (by omega)]; exact (kz z z0 (by omega)).1
theorem J_mrest {k : Int → St → Prop} (hb : b = 2 ∨ b = 515) (hh : half01 h) (ht : 0 ≤ t ∧ t < 24) (K : Tks T n N te so va pl) (O : Op S0 b D0 h t M0 m base) (C : CTk N so va pl S i) (R : RTk T n te so va pl D i) (M : Mb S b D h t m) (rw0 : Rw S b m t (accv fc a) (shpv fc s)) (oc : oR S0 S b m) (od : oQ D0 D) (hw : (wr = 1 ∧ S (me b m) 2 = 0 ∧ S (me b m) 3 = 2) ∨ (wr = 0 ∧ ¬ (S (me b m) 2 = 0 ∧ S (me b m) 3 = 2))) (fa : D0 11 (24 * h + t) = 2 → accv fc a = 0 ∨ accv fc a = 3)
    (run0 : ∀ k' : St → Prop, wX8_readMember_117 D t (24 * h + t) fc a s t wr k' → wX8_readMember D0 t k')
    (h1 : ∀ S' D' j, i < j → CTk N so va pl S' j → RTk T n te so va pl D' j → Op S' b D' h t M0 (m + 1) base → (∀ a j, ¬ (a = 1032 ∧ ((4 ≤ j ∧ j ≤ 6) ∨ j = 14)) → ¬ (me b m ≤ a ∧ a ≤ me b m + 2) → ¬ (a = ty b t ∧ j = 17) → ¬ (a = b ∧ j = 3) → S' a j = S0 a j) → (∀ a j, ¬ (a = 0 ∧ ((4 ≤ j ∧ j ≤ 7) ∨ j = 48)) → ¬ ((28 ≤ a ∧ a ≤ 32) ∧ j = 120 * h + m) → ¬ (a = 33 ∧ 3 * (120 * h + m) ≤ j ∧ j < 3 * (120 * h + m) + 3) → ¬ (a = 4 ∧ j = h) → ¬ (a = 25 ∧ j = 24 * h + t) → D' a j = D0 a j) → m < 120 → (∀ k' : St → Prop, k' D' → wX8_readMember D0 t k') → k 1 S')
    (h0 : ∀ S' D', FO S0 D0 b h S' D' → (∀ k' : St → Prop, k' D' → wX8_readMember D0 t k') → k 0 S') : wX4_readMember_175 S k := by
  have N4 := K.1.2
  have h01 : 0 ≤ h ∧ h ≤ 1 := by clear hw fa; unfold half01 at hh; omega
  have hm' := M.2.2.1
  have ix := isO_m hb hm'
  have fam0 := oR_fam hb hm' oc
  have half0 : offH D0 D h := oQ_H od
  obtain ⟨t1, v2, v3, t4, t5, t6, t7⟩ := rw0
  unfold wX4_readMember_175
  refine J_result hb hh ht K C R M hw t7 (fun m120 d25 S5 D5 c C5 r5 hc e5 oc5 od5 run5 => ⟨fun z => absurd z (by decide), fun _ => ?_⟩) (fun S5 D5 c fo run5 => ⟨fun _ => ?_, fun z => absurd rfl z⟩)
  rotate_left
  · have fo' := FO_pre fam0 half0 fo
    have met := FO_met fo'
    refine h0 S5 D5 fo' (fun k' hk => run0 k' ?_)
    unfold wX8_readMember_117
    refine run5 _ ?_
    unfold wX8_goesOn wX8_goesOn_0
    exact ⟨fun _ => ⟨fun z => absurd rfl z, fun _ => hk⟩, fun z => absurd z met⟩
  clear hw
  have m0' := hm'.1
  have hm : 0 ≤ m ∧ m < 120 := ⟨m0', m120⟩
  have v13 := M.1.2.2.2
  have cOK0 : kOK D h t c := kOK_c (fun _ => rfl) hc ht.1
  clear hc
  have f5 : fM S S5 b m := fun z j g1 g2 => oc5 z j g1 (by omega)
  have M5 := M.tr hb ht f5 (gM_N od5)
  have oc5' := oR_f oc f5
  have od5' := oQ_N od od5
  have fam5 := oR_fam hb hm' oc5'
  have half5 : offH D0 D5 h := oQ_H od5'
  have t5' := K.2.2.1 (i + 1) C5.1.1 C5.1.2
  have run5' : ∀ k' : St → Prop, wX8_is D5 2 (fun x_9 => (¬ x_9 = 0 → (0 ≤ 120 * h + m ∧ 120 * h + m < 240) ∧ (∀ S_13 : St, S_13 = up D5 29 (120 * h + m) (D5 0 7) → wX8_next S_13 (fun S_14 => KQ S_14 t (24 * h + t) fc a s c (120 * h + m) k'))) ∧ (x_9 = 0 → wX8_odd D5 (fun S_26 => k' S_26))) → wX8_readMember D0 t k' := by
    intro k' hk
    refine run0 k' ?_
    unfold wX8_readMember_117
    refine run5 _ ?_
    unfold wX8_goesOn wX8_goesOn_0 wX8_m wX8_m_0
    rw [M5.1.1.1.2.1, M5.2.2.2.1.2.2, w32_eq (x := 120 * h) (by clear fa; omega) (by clear fa; omega), w32_eq (x := 120 * h + m) (by clear fa; omega) (by clear fa; omega)]
    exact ⟨fun z => absurd r5.2.2.2.2.2.2.2 z, fun _ => ⟨fun _ => ⟨by clear fa; omega, hk⟩, fun z => absurd z (by decide)⟩⟩
  unfold wX4_readMemberName wX4_readMemberName_0
  rw [C5.2.2.2.2.2.2.1, C5.2.2.2.2.2.2.2]
  refine ⟨fun s2 x4 ex4 => ?_, fun s2 => ?_⟩
  rotate_left
  · obtain ⟨D6, w6, n6⟩ := R_od r5 t5'.2.1
    exact C_misf N4 C5 (fun S7 g7 => ⟨Or.inl rfl, fun _ => h0 S7 D6 (FO_mk hb (msf_pos _) fam5 half5 g7 w6) (fun k' hk => run5' k' (R_isS r5 t5'.2.1 (x := 2) (by unfold srtOK; decide) (by decide) (fun w => absurd w s2) (fun w => ⟨fun z => absurd rfl z, fun _ => n6 _ hk⟩))), fun z => absurd rfl z⟩)
  rw [M5.2.1] at ex4
  rw [ex4]
  refine ⟨ix, fun S7 e7 => ?_⟩
  have fa0 : (fun p : Prop => p) (D0 11 (24 * h + t) = 2 → accv fc a = 0 ∨ accv fc a = 3) := fa
  clear fa
  have C7 : CTk N so va pl S7 (i + 1) := C5.off (fun z j g => by rw [e7, up_n _ (by unfold me; omega)])
  obtain ⟨D6, e6'⟩ : ∃ D6, D6 = up D5 29 (120 * h + m) (va (i + 1)) := ⟨_, rfl⟩
  have r6 : RTk T n te so va pl D6 (i + 1) := r5.off (fun z j g => by rw [e6', up_n _ (by omega)])
  obtain ⟨D7, ⟨r7, od7⟩, n7⟩ := R_nx K C7.1 r6 (by omega)
  refine C_adv K C7 (by omega) (fun S8 a8 C8 => ⟨fun z => absurd z (by decide), fun _ => ?_⟩)
  have oc8 : ∀ z j, ¬ (z = 1032 ∧ 4 ≤ j ∧ j ≤ 6) → ¬ (z = me b m ∧ j = 0) → S8 z j = S5 z j := fun z j g1 g2 => by rw [a8 z j g1, e7, up_n _ (by omega)]
  have od7' : ∀ z j, ¬ (z = 0 ∧ 4 ≤ j ∧ j ≤ 7) → ¬ (z = 29 ∧ j = 120 * h + m) → D7 z j = D5 z j := fun z j g1 g2 => by rw [od7 z j g1, e6', up_n _ (by omega)]
  have f8 : fM S5 S8 b m := fun z j g1 g2 => oc8 z j g1 (by omega)
  have g7 : gM D5 D7 h m := fun z j g1 g2 g3 => od7' z j g1 g2
  have M8 := M5.tr hb ht f8 g7
  have oc8' := oR_f oc5' f8
  have fam8 := oR_fam hb hm' oc8'
  have half7 := half5.tr (offH_m hm g7 (fun w j => by rw [od7' _ _ (by omega) (by omega)]; exact w j))
  have run7 : ∀ k' : St → Prop, KQ D7 t (24 * h + t) fc a s c (120 * h + m) k' → wX8_readMember D0 t k' := by
    intro k' hk
    refine run5' k' (R_isS r5 t5'.2.1 (x := 2) (by unfold srtOK; omega) (by decide) (fun w => ⟨fun _ => ⟨by omega, fun A ea => ?_⟩, fun z => absurd z (by decide)⟩) (fun w => absurd s2 w))
    rw [ea, r5.2.2.2.2.2.2.1 (Or.inl s2), ← e6']
    exact n7 _ hk
  have rowx : ∀ z j, (z = me b m ∧ (j = 1 ∨ j = 2 ∨ j = 3 ∨ j = 4)) ∨ (z = me b m + 1 ∧ (j = 0 ∨ j = 1)) → S8 z j = S z j := fun z j g => by rw [oc8 _ _ (by unfold me at *; omega) (by omega), oc5 _ _ (by unfold me at *; omega) (by omega)]
  have e48 : S8 (me b m) 4 = 0 := by rw [rowx _ _ (by omega)]; exact t4
  refine J_kinds (x2 := 24 * h + t) (x3 := fc) (x4 := a) (x5 := s) (x6 := c) hb hh ht K C8 r7 M8 m120 e48 (fun S9 D8 j q ij hq C9 r8 e94 ar oc9 od8 run8 => ⟨fun z => absurd z (by decide), fun _ => ?_⟩) (fun S9 D8 fo run8 => ⟨fun _ => ?_, fun z => absurd rfl z⟩)
  rotate_left
  · have fo' := FO_pre fam8 half7 fo
    exact h0 S9 D8 fo' (fun k' hk => run7 k' (run8 k' hk))
  have f9 : fM S8 S9 b m := fun z j g1 g2 => oc9 z j g1 (by omega) (by omega)
  have g8 : gM D7 D8 h m := fun z j x1 x2 x3 => od8 z j x1 (by omega)
  have le8 : LE33 D7 → LE33 D8 := fun w j => le_row ar (fun j' g => od8 33 j' (by omega) (by omega)) ht.2 M8.1.2.2.2.2 w j
  have M9 := M8.tr hb ht f9 g8
  have oc9' := oR_f oc8' f9
  have fam9 := oR_fam hb hm' oc9'
  have half8 := half7.tr (offH_m hm g8 le8)
  refine J_take K C9 r8 (x := 59) (y := 59) (by unfold srtOK; omega) (by decide) (by decide) (fun _ S11 D9 a11 C11 od9 r9 n9 => ⟨fun _ => ?_, fun z => absurd z (by decide)⟩) (fun S11 D9 g11 w9 n9 => ⟨fun z => absurd rfl z, fun _ => ?_⟩)
  rotate_left
  · have fo' : FO S0 D0 b h S11 D9 := FO_mk hb (msf_pos _) fam9 half8 g11 w9
    have met := FO_met fo'
    refine h0 S11 D9 fo' (fun k' hk => run7 k' (run8 k' ?_))
    unfold KEd
    refine n9 _ ?_
    unfold wX8_goesOn wX8_goesOn_0
    exact ⟨fun _ => ⟨fun _ => hk, fun z => absurd rfl z⟩, fun z => absurd z met⟩
  have M11 := M9.tr hb ht (fM_Ad a11) (gM_N od9)
  have od9' : ∀ a j, ¬ (a = 0 ∧ ((4 ≤ j ∧ j ≤ 7) ∨ j = 48)) → ¬ (a = 29 ∧ j = 120 * h + m) → ¬ (a = 33 ∧ 3 * (120 * h + m) ≤ j ∧ j < 3 * (120 * h + m) + q) → D9 a j = D0 a j := fun a' j g1 g2 g3 => by rw [od9 _ _ (by omega), od8 _ _ (by omega) g3, od7' _ _ (by omega) g2]; exact od5' _ _ g1
  have e13 : ∀ u, D 13 u = D0 13 u := fun u => od _ _ (by omega)
  have e137 : ∀ u, D7 13 u = D0 13 u := fun u => by rw [od7' _ _ (by omega) (by omega)]; exact od5' _ _ (by omega)
  have z25 : D9 25 (24 * h + t) = D 25 (24 * h + t) := by rw [od9 _ _ (by omega), od8 _ _ (by omega) (by omega), od7' _ _ (by omega) (by omega), od5 _ _ (by omega)]
  have p25 : 0 ≤ D9 25 (24 * h + t) := by
    have e := od9' 25 (24 * h + t) (by omega) (by omega) (by omega)
    have := O.2.2.1.1
    rw [e, O.2.2.1.2.2.2.2.2.2.1]; omega
  obtain ⟨D', wD, nD⟩ := R_keep (fc := fc) (a := a) (s := s) (c := c) (q := q) hh ht hm M11.1.1.1.2.1 M11.2.2.2.1.2.2 ⟨p25, by rw [z25]; exact d25⟩ r9.2.2.2.2.2.2.2
  have R' : RTk T n te so va pl D' (j + 1) := r9.off (fun z j g => wD.2 z j (by omega) (by omega) (by omega) (by omega))
  have z11 : ∀ z j, (z = me b m ∨ z = me b m + 1) → S11 z j = S9 z j := fun z j g => a11 _ _ (by unfold me at g; omega)
  have cO : kOK D0 h t c := by
    unfold kOK at cOK0 ⊢
    rw [← e13]; exact cOK0
  have le9 : LE33 D9 := fun j => by
    rw [od9 _ _ (by omega)]
    refine le8 (fun j' => ?_) j
    rw [od7' _ _ (by omega) (by omega), od5' _ _ (by omega)]
    exact O.2.2.2.2.2 j'
  refine C_mkeep hb hh ht hm O C11 M11 (oR_f oc9' (fM_Ad a11)) od9' (by rw [z25]; exact d25) hq ?_ ?_ ?_ ?_ ?_ (fun z z0 z1 => ⟨?_, ?_⟩) (fun z z0 z1 z2 => ?_) ?_ cO fa0 le9 wD (fun S12 C12 O12 fS fD => h1 S12 D' (j + 1) (by omega) C12 R' O12 fS fD m120 (fun k' hk => run7 k' (run8 k' ?_)))
  · rw [z11 _ _ (Or.inl rfl), oc9 _ _ (by unfold me; omega) (by omega) (by omega), a8 _ _ (by unfold me; omega), e7, up_s, od9 _ _ (by omega), od8 _ _ (by omega) (by omega), od7 _ _ (by omega), e6', up_s]
  · rw [z11 _ _ (Or.inl rfl), oc9 _ _ (by unfold me; omega) (by omega) (by omega), rowx _ _ (by omega)]; exact t1
  · rw [z11 _ _ (Or.inl rfl), oc9 _ _ (by unfold me; omega) (by omega) (by omega), rowx _ _ (by omega)]; exact v2
  · rw [z11 _ _ (Or.inl rfl), oc9 _ _ (by unfold me; omega) (by omega) (by omega), rowx _ _ (by omega)]; exact v3
  · rw [z11 _ _ (Or.inl rfl)]; exact e94
  · rw [od9 _ _ (by omega)]; exact kOK_a e137 (ar z z0 z1).1 ht.1
  · rw [z11 _ _ (Or.inr rfl), od9 _ _ (by omega)]; exact (ar z z0 z1).2
  · have z01 : z = 0 ∨ z = 1 := by omega
    rw [z11 _ _ (Or.inr rfl), oc9 _ _ (by unfold me; omega) (by omega) (by omega), rowx _ _ (by omega)]
    rcases z01 with z01 | z01
    · rw [z01]; exact t5
    · rw [z01]; exact t6
  · rw [z11 _ _ (Or.inr rfl), oc9 _ _ (by unfold me; omega) (by omega) (by omega), oc8 _ _ (by unfold me; omega) (by omega)]; exact e5
  · unfold KEd
    exact n9 _ (nD _ hk)
end Member2
