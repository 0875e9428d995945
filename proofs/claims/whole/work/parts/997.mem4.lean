/-! pure: reading: a member's result, one kind, both together -/
section Mem4
variable {T te so va pl : Int → Int} {n N i b h t m q wr : Int} {S D S' D' S1 D1 : St}
theorem C_sk {k : Int → St → Prop} (hb : b = 2 ∨ b = 515) (ht : 0 ≤ t ∧ t < 24) (K : Tks T n N te so va pl) (C : CTk N so va pl S i) (M : Mb S b D h t m) (hq : 0 ≤ q ∧ q < 3)
    (h1 : ∀ S' y, (so i = 212 ∧ y = -3) ∨ (so i = 2 ∧ kdN D h t (va i) y) → S' = up S (me b m + 1) q y → k 1 S')
    (h2 : so i = 2 → (∀ y, ¬ kdN D h t (va i) y) → ∀ S', FLc (up S (me b m + 1) q (-9)) S' 3 (pl i) → k 0 S')
    (h3 : ¬ so i = 2 → ¬ so i = 212 → ∀ S', FLc S S' (msf (so i)) (pl i) → k 0 S') : wX4_seesKind S q k := by
  have N4 := K.1.2
  have hm := M.2.2.1
  have ix := isO_m hb hm
  have e46 : ∀ y, (so i = 212 ∧ y = -3) ∨ (so i = 2 ∧ kdN D h t (va i) y) → wX4_seesKind_46 S q y k := by
    intro y hy
    have y3 : -3 ≤ y := by
      rcases hy with w | w
      · omega
      · have := kdN_pos w.2; omega
    unfold wX4_seesKind_46
    intro x ex
    rw [M.2.1] at ex
    rw [ex]
    exact ⟨ix, hq, fun S3 e3 => ⟨fun _ => h1 S3 y hy e3, fun z => by clear hy h1 h2 h3; omega⟩⟩
  have e23 : so i = 212 ∨ so i = 2 → wX4_seesKind_23 S q k := by
    intro hs
    unfold wX4_seesKind_23
    rw [C.2.2.2.2.2.2.1, C.2.2.2.2.2.2.2]
    refine ⟨fun z => M.1.ck hb ht (fun y g => e46 y (Or.inr ⟨by omega, g⟩)) (fun g => ?_), fun z => e46 (-3) (Or.inl ⟨z, rfl⟩)⟩
    have s2 : so i = 2 := by omega
    unfold wX4_seesKind_46
    intro x ex
    rw [M.2.1] at ex
    rw [ex]
    refine ⟨ix, hq, fun S3 e3 => ⟨fun z => absurd rfl z, fun _ => ?_⟩⟩
    have C3 : CTk N so va pl S3 i := C.off (fun a j g => by rw [e3, up_n _ (by unfold me; omega)])
    refine C_fl N4 C3 (fun S4 g4 => ⟨fun _ => h2 s2 g S4 ?_, fun z => absurd rfl z⟩)
    rw [← e3]; exact g4
  unfold wX4_seesKind wX4_seesKind_0
  rw [C.2.2.2.2.2.2.1]
  exact ⟨fun z => e23 (Or.inl z), fun z => ⟨fun z2 => e23 (Or.inr z2), fun z2 => C_misf N4 C (fun S1 g1 => ⟨Or.inl rfl, h3 z2 z S1 g1⟩)⟩⟩
theorem R_97_no {y : Int} {k : Int → St → Prop} (g : ¬ D 0 8 = 0) (hk : k y D) : wX8_readResult_97 D wr y k := by
  have e : wX8_readResult_110 D y k := by
    unfold wX8_readResult_110 wX8_goesOn wX8_goesOn_0
    exact ⟨fun _ => ⟨fun _ => hk, fun z => absurd rfl z⟩, fun z => absurd z g⟩
  unfold wX8_readResult_97
  exact ⟨fun _ => e, fun _ => R_fl_no g e⟩
theorem J_result {k : Int → St → Prop} (hb : b = 2 ∨ b = 515) (hh : half01 h) (ht : 0 ≤ t ∧ t < 24) (K : Tks T n N te so va pl) (C : CTk N so va pl S i) (R : RTk T n te so va pl D i) (M : Mb S b D h t m) (hw : (wr = 1 ∧ S (me b m) 2 = 0 ∧ S (me b m) 3 = 2) ∨ (wr = 0 ∧ ¬ (S (me b m) 2 = 0 ∧ S (me b m) 3 = 2))) (c2 : S (me b m + 1) 2 = -2)
    (h1 : m < 120 → D 25 (24 * h + t) < 8 → ∀ S' D' y, CTk N so va pl S' (i + 1) → RTk T n te so va pl D' (i + 1) → (y = -2 ∨ y = -3 ∨ aOK D h t y) → S' (me b m + 1) 2 = y → (∀ z j, ¬ (z = 1032 ∧ 4 ≤ j ∧ j ≤ 6) → ¬ (z = me b m + 1 ∧ j = 2) → S' z j = S z j) → offN D D' → (∀ k' : Int → St → Prop, k' y D' → wX8_readResult D t wr k') → k 1 S')
    (h0 : ∀ S' D' y, FO S D b h S' D' → (∀ k' : Int → St → Prop, k' y D' → wX8_readResult D t wr k') → k 0 S') : wX4_readResult S k := by
  have N4 := K.1.2
  have t1 := K.2.2.1 i C.1.1 C.1.2
  have hm := M.2.2.1
  have ix := isO_m hb hm
  -- the kind is good
  have good : ∀ S1 y, (y = -2 ∨ y = -3 ∨ aOK D h t y) → ¬ so i = 0 → (∀ z j, ¬ (z = me b m + 1 ∧ j = 2) → S1 z j = S z j) → S1 (me b m + 1) 2 = y → (∀ k' : Int → St → Prop, wX8_readResult_97 D wr y k' → wX8_readResult D t wr k') → wX4_readResult_20 S1 k := by
    intro S1 y hy ni o1 e1 run
    have f1 : fM S S1 b m := fun z j g1 g2 => o1 z j (by omega)
    have C1 : CTk N so va pl S1 i := C.off (fun z j g => o1 z j (by unfold me; omega))
    have M1 := M.tr hb ht f1 (D' := D) (fun _ _ _ _ _ => rfl)
    have e47 : wr = 0 → wX4_readResult_47 S1 k := by
      intro w0
      have run2 : ∀ (D2 : St), (∀ k' : St → Prop, k' D2 → wX8_past D k') → ∀ k' : Int → St → Prop, k' y D2 → wX8_readResult D t wr k' := by
        intro D2 n2 k' hk
        refine run k' ?_
        unfold wX8_readResult_97 wX8_readResult_110 wX8_goesOn wX8_goesOn_0
        exact ⟨fun _ => ⟨fun z => absurd R.2.2.2.2.2.2.2 z, fun _ => ⟨fun z => absurd z (by decide), fun _ => n2 _ hk⟩⟩, fun z => absurd w0 z⟩
      unfold wX4_readResult_47
      refine J_past hb ht K C1 R M1 ni (fun m120 d25 S2 D2 a2 C2 o2 r2 n2 => ⟨Or.inr rfl, h1 m120 d25 S2 D2 y C2 r2 hy ?_ (fun z j g1 g2 => ?_) o2 (run2 D2 n2)⟩) (fun S2 D2 g2 w2 n2 => ⟨Or.inl rfl, h0 S2 D2 y (FO_mk3 hb (by decide) (offFam_m hb hm f1) (offH_0 (fun _ _ _ => rfl)) g2 (FLr_w w2)) (run2 D2 n2)⟩)
      · rw [a2 _ _ (by unfold me; omega)]; exact e1
      · rw [a2 _ _ g1]; exact o1 z j g2
    unfold wX4_readResult_20
    intro x ex
    rw [M1.2.1] at ex
    rw [ex]
    refine ⟨ix, ?_⟩
    unfold wX3_isOwn wX3_isOwn_0
    rw [o1 _ _ (by omega)]
    refine ⟨fun z => ⟨fun _ => e47 (by omega), fun w => absurd rfl w⟩, fun z => ⟨fun w => absurd w (by decide), fun _ x4 ex4 => ?_⟩⟩
    rw [M1.2.1] at ex4
    rw [ex4, o1 _ _ (by omega)]
    refine ⟨ix, fun z2 => e47 (by omega), fun z2 => ?_⟩
    have w1 : wr = 1 := by
      rcases hw with w | w
      · exact w.1
      · exact absurd ⟨z, z2⟩ w.2
    obtain ⟨D2, w2, n2⟩ := R_fl (S := D) (f := 5) (p := pl i) R.2.2.2.2.2.2.2
    refine C_fl N4 C1 (fun S2 g2 => ⟨Or.inl rfl, h0 S2 D2 y (FO_mk3 hb (by decide) (offFam_m hb hm f1) (offH_0 (fun _ _ _ => rfl)) g2 (FLr_w w2)) (fun k' hk => run k' ?_)⟩)
    unfold wX8_readResult_97 wX8_readResult_110 wX8_goesOn wX8_goesOn_0
    rw [R.2.2.2.2.2.1]
    refine ⟨fun z => by omega, fun _ => n2 _ ⟨fun _ => ⟨fun _ => hk, fun w => absurd rfl w⟩, fun w => ?_⟩⟩
    rw [w2.1] at w; exact absurd w (by decide)
  have is2 : ∀ (s0 : Int) (k' : Int → St → Prop), so i = 2 → wX8_varNamed D (va i) t (fun x_8 => (x_8 < 0 → wX8_seenType D (va i) t (fun x_11 => wX8_readResult_71 D wr x_11 k')) ∧ (0 ≤ x_8 → wX8_readResult_71 D wr (w32 (100 + x_8)) k')) → wX8_readResult D t wr k' := by
    intro s0 k' s2 hk
    unfold wX8_readResult wX8_readResult_0
    refine R_isS R t1.2.1 (x := 213) (by unfold srtOK; omega) (by decide) (fun w => by omega) (fun w => ⟨fun _ => R_isS R t1.2.1 (x := 212) (by unfold srtOK; omega) (by decide) (fun w2 => by omega) (fun w2 => ⟨fun _ => ?_, fun z => absurd rfl z⟩), fun z => absurd rfl z⟩)
    unfold wX8_readResult_29
    refine R_isS R t1.2.1 (x := 2) (by unfold srtOK; omega) (by decide) (fun w => ⟨fun z => absurd z (by decide), fun _ => ?_⟩) (fun w => absurd s2 w)
    rw [R.2.2.2.2.2.2.1 (Or.inl s2)]
    exact hk
  unfold wX4_readResult wX4_readResult_0
  rw [C.2.2.2.2.2.2.1]
  refine ⟨fun si => good S (-2) (Or.inl rfl) (by omega) (fun _ _ _ => rfl) c2 (fun k' hk => ?_), fun si => ?_⟩
  · unfold wX8_readResult wX8_readResult_0
    refine R_isS R t1.2.1 (x := 213) (by unfold srtOK; omega) (by decide) (fun w => ⟨fun z => absurd z (by decide), fun _ => ?_⟩) (fun w => absurd si w)
    unfold wX8_readResult_29
    exact R_isS R t1.2.1 (x := 2) (by unfold srtOK; omega) (by decide) (fun w => by omega) (fun w => ⟨fun _ => ⟨fun _ => hk, fun z => absurd z (by decide)⟩, fun z => absurd rfl z⟩)
  · refine C_sk hb ht K C M (by decide) (fun S1 y hy e1 => ⟨fun _ => good S1 y ?_ ?_ (fun z j g => by rw [e1, up_n _ (by omega)]) (by rw [e1, up_s]) (fun k' hk => ?_), fun w => absurd w (by decide)⟩) (fun s2 g S1 g1 => ⟨fun w => absurd rfl w, fun _ => ?_⟩) (fun n2 n212 S1 g1 => ⟨fun w => absurd rfl w, fun _ => ?_⟩)
    · rcases hy with w | w
      · exact Or.inr (Or.inl w.2)
      · exact Or.inr (Or.inr (kdN_aOK w.2))
    · rcases hy with w | w
      · omega
      · have := w.1; omega
    · rcases hy with w | w
      · rw [w.2] at hk
        unfold wX8_readResult wX8_readResult_0
        refine R_isS R t1.2.1 (x := 213) (by unfold srtOK; omega) (by decide) (fun w2 => by omega) (fun w2 => ⟨fun _ => R_isS R t1.2.1 (x := 212) (by unfold srtOK; omega) (by decide) (fun w3 => ⟨fun z => absurd z (by decide), fun _ => ?_⟩) (fun w3 => absurd w.1 w3), fun z => absurd rfl z⟩)
        unfold wX8_readResult_29
        exact R_isS R t1.2.1 (x := 2) (by unfold srtOK; omega) (by decide) (fun w => by omega) (fun w => ⟨fun _ => ⟨fun _ => hk, fun z => absurd z (by decide)⟩, fun z => absurd rfl z⟩)
      · refine is2 0 k' w.1 (M.1.rk hh ht (k := fun s => wX8_readResult_71 D wr s k') (fun y' g' => ?_) (fun g' => absurd w.2 (g' y)))
        rw [kdN_one M.1.1.2.2 M.1.2.1 g' w.2]
        have := kdN_pos w.2
        unfold wX8_readResult_71 wX8_readResult_85
        exact ⟨fun _ => hk, fun z => by omega⟩
    · obtain ⟨D2, w2, n2⟩ := R_fl (S := D) (f := 3) (p := pl i) R.2.2.2.2.2.2.2
      refine h0 S1 D2 (-1) (FO_mk3 hb (by decide) (offFam_m hb hm (m := m) (fun z j g1 g2 => ?_)) (offH_0 (fun _ _ _ => rfl)) g1 (FLr_w w2)) (fun k' hk => is2 0 k' s2 (M.1.rk hh ht (k := fun s => wX8_readResult_71 D wr s k') (fun y' g' => absurd g' (g y')) (fun g' => ?_)))
      · rw [up_n _ (by omega)]
      · unfold wX8_readResult_71 wX8_readResult_85
        rw [R.2.2.2.2.2.1]
        exact ⟨fun z => absurd z (by decide), fun _ => n2 _ (R_97_no (by rw [w2.1]; decide) hk)⟩
    · obtain ⟨D2, w2, n2'⟩ := R_od R t1.2.1
      refine h0 S1 D2 (-1) (FO_mk3 hb (msf_pos _) (S1 := S) (D1 := D) (offFam_rd hb (fun _ _ _ => rfl)) (offH_0 (fun _ _ _ => rfl)) g1 (FLr_w w2)) (fun k' hk => ?_)
      unfold wX8_readResult wX8_readResult_0
      refine R_isS R t1.2.1 (x := 213) (by unfold srtOK; omega) (by decide) (fun w => absurd w si) (fun w => ⟨fun _ => R_isS R t1.2.1 (x := 212) (by unfold srtOK; omega) (by decide) (fun w2 => absurd w2 n212) (fun w3 => ⟨fun _ => ?_, fun z => absurd rfl z⟩), fun z => absurd rfl z⟩)
      unfold wX8_readResult_29
      refine R_isS R t1.2.1 (x := 2) (by unfold srtOK; omega) (by decide) (fun w => absurd w n2) (fun w => ⟨fun _ => ⟨fun z => absurd rfl z, fun _ => n2' _ (R_97_no ?_ hk)⟩, fun z => absurd rfl z⟩)
      rw [w2.1]
      have := msf_pos (so i)
      omega
end Mem4
