/-! pure: reading: a member is kept -/
def eqR (S : St) (b m u : Int) : Prop := S (me b m) 0 = S (me b u) 0 ∧ S (me b m + 2) 0 = S (me b u + 2) 0 ∧ S (me b m + 2) 1 = S (me b u + 2) 1 ∧ S (me b m + 2) 2 = S (me b u + 2) 2
def sigS (S : St) (b m g : Int) : Prop := (0 ≤ g ∧ g ≤ m) ∧ (g < m → eqR S b m g) ∧ ∀ u, 0 ≤ u → u < g → ¬ eqR S b m u
def erK (S : St) (b t m z : Int) : Int := if S (me b m + 1) z < 100 then S (me b m + 1) z else S (ty b t + 2) (S (me b m + 1) z - 100)
def accv (fc a : Int) : Int := if 0 ≤ a then a else if fc = 0 then 1 else 3
def shpv (fc s : Int) : Int := if 0 ≤ s then s else if fc = 0 then 0 else 2
section Keep
variable {b h t m : Int} {S D : St}
theorem C_sig {k : Int → Prop} (hb : b = 2 ∨ b = 515) (hm : 0 ≤ m ∧ m < 120) (e3 : S 1032 3 = b) (e14 : S 1032 14 = me b m) (c3 : S b 3 = m) (h1 : ∀ g, sigS S b m g → k g) : wX4_signatureOfRow S k := by
  have ib := isO_b hb
  have ix := isO_m hb (m := m) (by omega)
  unfold wX4_signatureOfRow wX4_signatureOfRow_0 wX4_signatureOfRow_2
  refine wlp_of (fun a : Int => (0 ≤ a ∧ a ≤ m) ∧ ∀ u, 0 ≤ u → u < a → ¬ eqR S b m u) (fun a => (m - a).toNat) ?_ ⟨⟨by decide, hm.1⟩, fun u u0 u1 => by clear h1; omega⟩
  intro P a I hP
  obtain ⟨⟨i1, i2⟩, i3⟩ := I
  show wX4_signatureOfRow_2_b S a (fun b0 => P b0) k
  unfold wX4_signatureOfRow_2_b
  intro x ex
  rw [e3] at ex
  rw [ex, c3]
  refine ⟨ib, fun z x4 ex4 => ?_, fun z x6 ex6 => ?_⟩
  · rw [e3] at ex4
    rw [ex4, c3]
    exact ⟨ib, h1 m ⟨⟨hm.1, Int.le_refl _⟩, fun w => by clear h1 hP i3; omega, fun u u0 u1 => i3 u u0 (by clear h1 hP i3; omega)⟩⟩
  · rw [e3] at ex6
    rw [ex6]
    refine ⟨ib, by clear h1 hP i3; omega, fun x8 ex8 x9 ex9 => ?_⟩
    have ex8 : x8 = me b a := ex8
    rw [e14] at ex9
    rw [ex9, ex8]
    refine ⟨ix, ?_⟩
    have nxt : ¬ eqR S b m a → ∀ y, y = w32 (a + 1) → P y := by
      intro ne y ey
      rw [w32_eq (by clear h1 hP i3; omega) (by clear h1 hP i3; omega)] at ey
      refine hP y ⟨⟨by clear h1 hP i3; omega, by clear h1 hP i3; omega⟩, fun u u0 u1 => ?_⟩ (by clear h1 hP i3; omega)
      by_cases c : u = a
      · rw [c]; exact ne
      · exact i3 u u0 (by clear h1 hP i3; omega)
    unfold wX3_hasErasedKindsOf wX3_hasErasedKindsOf_0
    refine ⟨fun n0 => ⟨fun _ => nxt (fun w => n0 w.1), fun w => absurd rfl w⟩, fun q0 => ⟨fun n1 => ⟨fun _ => nxt (fun w => n1 w.2.1), fun w => absurd rfl w⟩, fun q1 => ⟨fun n2 => ⟨fun _ => nxt (fun w => n2 w.2.2.1), fun w => absurd rfl w⟩, fun q2 => ⟨fun w => absurd w (by decide), fun _ x13 ex13 => ?_⟩⟩⟩⟩
    rw [e14] at ex13
    rw [ex13]
    exact ⟨ix, fun n3 => nxt (fun w => n3 w.2.2.2), fun q3 => h1 a ⟨⟨i1, i2⟩, fun _ => ⟨q0, q1, q2, q3⟩, i3⟩⟩
theorem C_keep {k : St → Prop} (hb : b = 2 ∨ b = 515) (ht : 0 ≤ t ∧ t < 24) (hm : 0 ≤ m ∧ m < 120) (e3 : S 1032 3 = b) (e12 : S 1032 12 = ty b t) (e14 : S 1032 14 = me b m) (c3 : S b 3 = m) (c17 : 0 ≤ S (ty b t) 17 ∧ S (ty b t) 17 < 8) (hk : ∀ z, 0 ≤ z → z ≤ 2 → S (me b m + 1) z < 102)
    (h1 : ∀ S' g, (∀ z, 0 ≤ z → z ≤ 2 → S' (me b m + 2) z = erK S b t m z) → S' (me b m) 7 = g → S' (ty b t) 17 = S (ty b t) 17 + 1 → S' b 3 = m + 1 → (∀ a j, ¬ (a = me b m + 2 ∧ 0 ≤ j ∧ j ≤ 2) → ¬ (a = me b m ∧ j = 7) → ¬ (a = ty b t ∧ j = 17) → ¬ (a = b ∧ j = 3) → S' a j = S a j) → sigS S' b m g → k S') : wX4_keepMember S k := by
  have ib := isO_b hb
  have it := isO_t hb ht
  have ix := isO_m hb (m := m) (by omega)
  unfold wX4_keepMember wX4_keepMember_0 wX4_keepMember_2
  refine wlp_for 3 (fun i s => (∀ z : Int, 0 ≤ z → z < i → s (me b m + 2) z = erK S b t m z) ∧ ∀ a j : Int, ¬ (a = me b m + 2 ∧ 0 ≤ j ∧ j < i) → s a j = S a j) ?_ ?_ ⟨fun z z0 z1 => by omega, fun _ _ _ => rfl⟩
  · intro P i s hi I hP
    obtain ⟨i1, i2⟩ := I
    show wX4_keepMember_2_b s i (fun b0 b1 => P (b0, b1)) k
    have s14 : s 1032 14 = me b m := by rw [i2 _ _ (by unfold me; omega)]; exact e14
    have s12 : s 1032 12 = ty b t := by rw [i2 _ _ (by unfold me; omega)]; exact e12
    have sk : s (me b m + 1) i = S (me b m + 1) i := i2 _ _ (by omega)
    have e47 : ∀ v, v = erK S b t m i → wX4_keepMember_47 s i (me b m) i v (fun b0 b1 => P (b0, b1)) k := by
      intro v ev
      unfold wX4_keepMember_47
      refine ⟨by omega, fun S1 e1 y ey => ?_⟩
      rw [w32_eq (by omega) (by omega)] at ey
      rw [ey]
      refine hP S1 ⟨fun z z0 z1 => ?_, fun a j g => ?_⟩
      · by_cases c : z = i
        · rw [c, e1, up_s]; exact ev
        · rw [e1, up_n _ (by omega)]; exact i1 z z0 (by omega)
      · rw [e1, up_n _ (by omega)]; exact i2 a j (by omega)
    unfold wX4_keepMember_2_b
    refine ⟨fun z => by omega, fun z x16 ex16 => ?_⟩
    rw [s14] at ex16
    rw [ex16]
    refine ⟨ix, by omega, fun x19 ex19 x20 ex20 => ?_⟩
    rw [sk] at ex19
    rw [s14] at ex20
    rw [ex20]
    have hz := hk i (by omega) (by omega)
    refine ⟨ix, fun l => e47 _ ?_, fun l x24 ex24 => ?_⟩
    · rw [ex19]; unfold erK; rw [if_pos (by omega)]
    · rw [s12] at ex24
      rw [ex24, w32_eq (x := x19 - 100) (by omega) (by omega)]
      refine ⟨it, by omega, e47 _ ?_⟩
      rw [ex19, i2 _ _ (by unfold ty me; omega)]
      unfold erK
      rw [if_neg (by omega)]
  · intro P s I
    obtain ⟨i1, i2⟩ := I
    show wX4_keepMember_2_b s (3 : Nat) (fun b0 b1 => P (b0, b1)) k
    have o : ∀ a j, ¬ (a = me b m + 2 ∧ 0 ≤ j ∧ j ≤ 2) → s a j = S a j := fun a j g => i2 a j (by omega)
    have s14 : s 1032 14 = me b m := by rw [o _ _ (by unfold me; omega)]; exact e14
    have s12 : s 1032 12 = ty b t := by rw [o _ _ (by unfold me; omega)]; exact e12
    have s3 : s 1032 3 = b := by rw [o _ _ (by unfold me; omega)]; exact e3
    have sc3 : s b 3 = m := by rw [o _ _ (by unfold me; omega)]; exact c3
    unfold wX4_keepMember_2_b
    refine ⟨fun _ x3 ex3 => ?_, fun z => absurd z (by decide)⟩
    rw [s14] at ex3
    rw [ex3]
    refine ⟨ix, C_sig hb hm s3 s14 sc3 (fun g sg S1 e1 x6 ex6 => ?_)⟩
    have o1 : ∀ a j, ¬ (a = me b m ∧ j = 7) → S1 a j = s a j := fun a j w => by rw [e1, up_n _ (by omega)]
    rw [o1 _ _ (by unfold me; omega), s12] at ex6
    rw [ex6]
    refine ⟨it, fun S2 e2 x11 ex11 => ?_⟩
    rw [o1 _ _ (by unfold ty me; omega), o _ _ (by unfold ty me; omega), w32_eq (by omega) (by omega)] at e2
    have o2 : ∀ a j, ¬ (a = ty b t ∧ j = 17) → S2 a j = S1 a j := fun a j w => by rw [e2, up_n _ (by omega)]
    rw [o2 _ _ (by unfold ty; omega), o1 _ _ (by unfold me; omega), s3] at ex11
    rw [ex11]
    refine ⟨ib, fun S3 e3' => ?_⟩
    rw [o2 _ _ (by unfold ty; omega), o1 _ _ (by unfold me; omega), sc3, w32_eq (by omega) (by omega)] at e3'
    have o3 : ∀ a j, ¬ (a = b ∧ j = 3) → S3 a j = S2 a j := fun a j w => by rw [e3', up_n _ (by omega)]
    have eqs : ∀ u, 0 ≤ u → u ≤ m → (eqR S3 b m u ↔ eqR s b m u) := by
      intro u u0 u1
      have q : ∀ v z, 0 ≤ v → v ≤ m → S3 (me b v + 2) z = s (me b v + 2) z := fun v z v0 v1 => by rw [o3 _ _ (by unfold me; omega), o2 _ _ (by unfold me ty; omega), o1 _ _ (by unfold me; omega)]
      have q0 : ∀ v, 0 ≤ v → v ≤ m → S3 (me b v) 0 = s (me b v) 0 := fun v v0 v1 => by rw [o3 _ _ (by unfold me; omega), o2 _ _ (by unfold me ty; omega), o1 _ _ (by omega)]
      unfold eqR
      rw [q0 m hm.1 (Int.le_refl _), q0 u u0 u1, q m 0 hm.1 (Int.le_refl _), q m 1 hm.1 (Int.le_refl _), q m 2 hm.1 (Int.le_refl _), q u 0 u0 u1, q u 1 u0 u1, q u 2 u0 u1]
    refine h1 S3 g (fun z z0 z1 => ?_) ?_ ?_ ?_ (fun a j g1 g2 g3 g4 => ?_) ⟨sg.1, fun w => (eqs g sg.1.1 sg.1.2).mpr (sg.2.1 w), fun u u0 u1 w => sg.2.2 u u0 u1 ((eqs u u0 (by have := sg.1; omega)).mp w)⟩
    · rw [o3 _ _ (by unfold me; omega), o2 _ _ (by unfold me ty; omega), o1 _ _ (by omega)]; exact i1 z z0 (by omega)
    · rw [o3 _ _ (by unfold me; omega), o2 _ _ (by unfold me ty; omega), e1, up_s]
    · rw [o3 _ _ (by unfold ty; omega), e2, up_s]
    · rw [e3', up_s]
    · rw [o3 _ _ g4, o2 _ _ g3, o1 _ _ g2, o _ _ g1]
end Keep
section KeepR
variable {T te so va pl : Int → Int} {n N i b h t m fc a s c q : Int} {S D : St}
def KpR (D D' : St) (h t m ac fo q c : Int) : Prop := (D' 28 (120 * h + m) = t ∧ D' 30 (120 * h + m) = ac ∧ D' 31 (120 * h + m) = fo ∧ D' 32 (120 * h + m) = q ∧ D' 33 (3 * (120 * h + m) + 2) = c ∧ D' 4 h = m + 1 ∧ D' 25 (24 * h + t) = D 25 (24 * h + t) + 1) ∧ ∀ a j, ¬ ((a = 28 ∨ (30 ≤ a ∧ a ≤ 32)) ∧ j = 120 * h + m) → ¬ (a = 33 ∧ j = 3 * (120 * h + m) + 2) → ¬ (a = 4 ∧ j = h) → ¬ (a = 25 ∧ j = 24 * h + t) → D' a j = D a j
theorem R_keep (hh : half01 h) (ht : 0 ≤ t ∧ t < 24) (hm : 0 ≤ m ∧ m < 120) (hD : D 0 10 = h) (d4 : D 4 h = m) (d25 : 0 ≤ D 25 (24 * h + t) ∧ D 25 (24 * h + t) < 8) (g8 : D 0 8 = 0) : ∃ D', KpR D D' h t m (accv fc a) (shpv fc s) q c ∧ ∀ k : St → Prop, k D' → wX8_goesOn D (fun x_5 => (x_5 = 0 → k D) ∧ (¬ x_5 = 0 → (0 ≤ 120 * h + m ∧ 120 * h + m < 240) ∧ (∀ S_8 : St, S_8 = up D 28 (120 * h + m) t → (a < 0 → (fc = 0 → wX8_readMember_323 S_8 (24 * h + t) fc s c (120 * h + m) q (120 * h + m) 1 k) ∧ (¬ fc = 0 → wX8_readMember_323 S_8 (24 * h + t) fc s c (120 * h + m) q (120 * h + m) 3 k)) ∧ (0 ≤ a → wX8_readMember_323 S_8 (24 * h + t) fc s c (120 * h + m) q (120 * h + m) a k)))) := by
  have h01 : 0 ≤ h ∧ h ≤ 1 := by unfold half01 at hh; omega
  obtain ⟨D', e⟩ : ∃ D', D' = up (up (up (up (up (up (up D 28 (120 * h + m) t) 30 (120 * h + m) (accv fc a)) 31 (120 * h + m) (shpv fc s)) 32 (120 * h + m) q) 33 (3 * (120 * h + m) + 2) c) 4 h (m + 1)) 25 (24 * h + t) (D 25 (24 * h + t) + 1) := ⟨_, rfl⟩
  refine ⟨D', ⟨⟨?_, ?_, ?_, ?_, ?_, ?_, ?_⟩, fun a j g1 g2 g3 g4 => ?_⟩, fun k hk => ?_⟩
  · rw [e, up_n _ (by omega), up_n _ (by omega), up_n _ (by omega), up_n _ (by omega), up_n _ (by omega), up_n _ (by omega), up_s]
  · rw [e, up_n _ (by omega), up_n _ (by omega), up_n _ (by omega), up_n _ (by omega), up_n _ (by omega), up_s]
  · rw [e, up_n _ (by omega), up_n _ (by omega), up_n _ (by omega), up_n _ (by omega), up_s]
  · rw [e, up_n _ (by omega), up_n _ (by omega), up_n _ (by omega), up_s]
  · rw [e, up_n _ (by omega), up_n _ (by omega), up_s]
  · rw [e, up_n _ (by omega), up_s]
  · rw [e, up_s]
  · rw [e, up_n _ (by omega), up_n _ (by omega), up_n _ (by omega), up_n _ (by omega), up_n _ (by omega), up_n _ (by omega), up_n _ (by omega)]
  · have hx : 0 ≤ 120 * h + m ∧ 120 * h + m < 240 := by omega
    have hi : 0 ≤ 24 * h + t ∧ 24 * h + t < 48 := by omega
    have e349 : ∀ S2, S2 = up (up D 28 (120 * h + m) t) 30 (120 * h + m) (accv fc a) → wX8_readMember_349 S2 (24 * h + t) c (120 * h + m) q (120 * h + m) (shpv fc s) k := by
      intro S2 e2
      unfold wX8_readMember_349
      rw [w32_eq (x := 3 * (120 * h + m)) (by omega) (by omega), w32_eq (x := 3 * (120 * h + m) + 2) (by omega) (by omega)]
      refine ⟨hx, fun S3 e3 => ⟨hx, fun S4 e4 => ⟨by omega, fun S5 e5 => ?_⟩⟩⟩
      have s10 : S5 0 10 = h := by rw [e5, up_n _ (by omega), e4, up_n _ (by omega), e3, up_n _ (by omega), e2, up_n _ (by omega), up_n _ (by omega)]; exact hD
      have s4 : S5 4 h = m := by rw [e5, up_n _ (by omega), e4, up_n _ (by omega), e3, up_n _ (by omega), e2, up_n _ (by omega), up_n _ (by omega)]; exact d4
      rw [s10, s4, w32_eq (x := m + 1) (by omega) (by omega)]
      refine ⟨by omega, by omega, fun S6 e6 => ⟨hi, hi, fun S7 e7 => ?_⟩⟩
      have s25 : S6 25 (24 * h + t) = D 25 (24 * h + t) := by rw [e6, up_n _ (by omega), e5, up_n _ (by omega), e4, up_n _ (by omega), e3, up_n _ (by omega), e2, up_n _ (by omega), up_n _ (by omega)]
      rw [s25, w32_eq (by omega) (by omega)] at e7
      have : S7 = D' := by rw [e7, e6, e5, e4, e3, e2, e]
      rw [this]; exact hk
    have e323 : ∀ v S1, S1 = up D 28 (120 * h + m) t → v = accv fc a → wX8_readMember_323 S1 (24 * h + t) fc s c (120 * h + m) q (120 * h + m) v k := by
      intro v S1 e1 ev
      unfold wX8_readMember_323
      refine ⟨hx, fun S2 e2 => ⟨fun l => ⟨fun z => ?_, fun z => ?_⟩, fun l => ?_⟩⟩
      · have := e349 S2 (by rw [e2, e1, ev])
        unfold shpv at this
        rw [if_neg (by omega), if_pos z] at this; exact this
      · have := e349 S2 (by rw [e2, e1, ev])
        unfold shpv at this
        rw [if_neg (by omega), if_neg z] at this; exact this
      · have := e349 S2 (by rw [e2, e1, ev])
        unfold shpv at this
        rw [if_pos l] at this; exact this
    unfold wX8_goesOn wX8_goesOn_0
    refine ⟨fun z => absurd g8 z, fun _ => ⟨fun z => absurd z (by decide), fun _ => ⟨hx, fun S1 e1 => ⟨fun l => ⟨fun z => e323 1 S1 e1 ?_, fun z => e323 3 S1 e1 ?_⟩, fun l => e323 a S1 e1 ?_⟩⟩⟩⟩
    · unfold accv; rw [if_neg (by omega), if_pos z]
    · unfold accv; rw [if_neg (by omega), if_neg z]
    · unfold accv; rw [if_pos l]
end KeepR
