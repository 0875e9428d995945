/-! pure: close: the run of both -/
section Run2
variable {E E0 D : St} {b h t M0 M1 base : Int}
theorem R_fails {S : St} {f p : Int} (g : S 0 8 = 0) : ∃ S', S' = up (up S 0 8 f) 0 9 p ∧ ∀ k : St → Prop, k S' → wX8_fails S f p k := by
  refine ⟨_, rfl, fun k hk => ?_⟩
  unfold wX8_fails wX8_fails_0
  refine ⟨fun z => absurd g z, fun _ x ex y ey => ?_⟩
  rw [ey, ex]; exact hk
theorem failed {Dx : St} {f p : Int} (d8 : Dx 0 8 = 0) (dp : Dx 0 6 = p) (o : offF D Dx h t M0 M1) (hr : ∀ k : St → Prop, wX8_fails Dx f (Dx 0 6) (fun S => k S) → wX8_close D t k) : ∃ SR', offF D SR' h t M0 M1 ∧ SR' 0 8 = f ∧ SR' 0 9 = p ∧ ∀ k : St → Prop, k SR' → wX8_close D t k := by
  obtain ⟨S', e, r⟩ := R_fails (S := Dx) (f := f) (p := Dx 0 6) d8
  refine ⟨S', fun a j h1 h2 h3 => ?_, ?_, ?_, fun k hk => hr k (r _ hk)⟩
  · rw [e, up_n _ (by omega), up_n _ (by omega)]
    exact o a j h1 h2 h3
  · rw [e, up_n _ (by omega), up_s]
  · rw [e, up_s, dp]
theorem close_run {k : Int → St → Prop} (K : RD E b D h t M0 M1 base) (d8 : D 0 8 = 0) (e0 : E = up (up E0 1034 0 b) 1034 1 (ty b t))
    (hf : ∀ f S' SR', (f = 7 ∨ f = 8 ∨ f = 9 ∨ f = 10) → offEb E S' b → offF D SR' h t M0 M1 → SR' 0 8 = f → SR' 0 9 = D 0 6 → (∀ k : St → Prop, k SR' → wX8_close D t k) → k f S')
    (hs : ∀ E1 D1 S3 D2 S' SR', ¬ twin D h M0 M1 → PutI D h t (wW D h t) (wW D h t) 0 D1 → GI E b D h t (wW D h t) E1 → off34 D1 D2 → (∀ a, M0 ≤ a → a < M1 → RW D1 D2 h t M0 a) → (∀ j, ¬ (120 * (120 * h + M0) ≤ j ∧ j < 120 * (120 * h + M1)) → D2 34 j = D1 34 j) → (∀ a j, ¬ a = 1035 → ¬ a = 1036 → ¬ (a = 1034 ∧ j = 4) → ¬ a = b + 3 → S3 a j = E1 a j) → (∀ m' n, 0 ≤ m' → m' < 121 → (m' < M0 ∨ M1 ≤ m') → 0 ≤ n → n < 128 → (hasO S3 b m' n ↔ hasO E b m' n)) → (∀ m n, M0 ≤ m → m < M1 → 0 ≤ n → n < M0 → (hasO S3 b m n ↔ ovr D2 h m n)) → (∀ m n, M0 ≤ m → m < M1 → M0 ≤ n → n < 128 → ¬ hasO S3 b m n) → BX D2 h t M0 M1 → LR D2 h t base (b1 D2 h t M0 M1 (M1 - M0).toNat) SR' → LC S3 b t base (b1 D2 h t M0 M1 (M1 - M0).toNat) S' → (∀ k : St → Prop, k SR' → wX8_close D t k) → k 0 S') : wX0_close E0 b (ty b t) k := by
  have H := K.ht
  have HCc := K.hc
  have rm := K.mem
  have hb := K.1.1
  have hh := K.1.2.1
  have ht := K.1.2.2.1
  have hD := K.1.2.2.2.1
  have hM := K.2.2.2.1
  have cr : CR E E b t := ⟨fun _ _ _ _ => rfl, K.1.2.2.2.2.1, K.1.2.2.2.2.2⟩
  obtain ⟨⟨f, D1⟩, P, rT⟩ := R_isTorn H hD
  dsimp only at P rT
  have o := P.1
  have X1 := K.rx o
  have t8 : D1 0 8 = 0 := by rw [o.eq (a := 0) (by omega)]; exact d8
  have t6 : D1 0 6 = D 0 6 := by rw [o.eq (a := 0) (by omega)]
  have t10 : D1 0 10 = h := by rw [o.eq (a := 0) (by omega)]; exact hD
  have oF1 : offF D D1 h t M0 M1 := fun a j h1 h2 h3 => o a j h1
  have tw := twin_c (D := D) (D' := D1) (h := h) (M0 := M0) (M1 := M1) (o.eq (by omega)) (o.eq (by omega)) (o.eq (by omega)) (o.eq (by omega)) (o.eq (by omega))
  have hF := X1.2.2.2.1
  unfold wX0_close wX0_close_0
  intro x1 e1 x2 e2
  rw [e1] at e2
  rw [← e0] at e2
  rw [e2]
  have rTw : ∀ kk : Int → Prop, (twin D h M0 M1 → kk 1) → (¬ twin D h M0 M1 → kk 0) → wX8_isTwice D1 t kk := fun kk g1 g0 => R_isTwice (S := D1) (D := D1) (fun _ _ _ _ => rfl) t10 hh ht hM ⟨hF.1, hF.2.1⟩ X1.2.2.2.2.1 (fun w => g1 (tw.mp w)) (fun w => g0 (fun v => w (tw.mpr v)))
  refine C_hasTwins hb ht cr hM K.2.2.2.2.2.2.2.1.1 K.2.2.2.2.2.2.2.1.2.2.1 K.2.2.2.2.2.1 rm K.ke (fun w => ⟨fun z => absurd z (by decide), fun _ => ?_⟩) (fun nw => ⟨fun _ => ?_, fun z => absurd rfl z⟩)
  · obtain ⟨SR', q1, q2, q3, q4⟩ := failed (D := D) (h := h) (t := t) (M0 := M0) (M1 := M1) (f := 7) t8 t6 oF1 (fun k' hk => by
      unfold wX8_close wX8_close_0
      exact rT _ (rTw _ (fun _ => ⟨fun z => absurd z (by decide), fun _ => hk⟩) (fun z => absurd w z)))
    exact hf 7 E SR' (Or.inl rfl) (fun _ _ _ _ _ _ => rfl) q1 q2 q3 q4
  have rT1 : ∀ k' : St → Prop, (f = 0 → wX8_findOver D1 t (fun S_5 => wX8_breaksAbove S_5 t (fun x_6 => (x_6 = 0 → wX8_clashes S_5 t (fun x_8 => (x_8 = 0 → wX8_makeBridges S_5 t (fun S_10 => k' S_10)) ∧ (¬ x_8 = 0 → wX8_fails S_5 10 (S_5 0 6) (fun S_13 => k' S_13)))) ∧ (¬ x_6 = 0 → wX8_fails S_5 9 (S_5 0 6) (fun S_16 => k' S_16))))) → (¬ f = 0 → wX8_fails D1 8 (D1 0 6) (fun S_19 => k' S_19)) → wX8_close D t k' := by
    intro k' g1 g2
    unfold wX8_close wX8_close_0
    exact rT _ (rTw _ (fun z => absurd z nw) (fun _ => ⟨fun _ => ⟨g1, g2⟩, fun z => absurd rfl z⟩))
  refine C_gatherAbove H HCc (fun ag E1 G => ⟨fun _ => ?_, fun z => absurd z (by decide)⟩) (fun ag S' oX => ⟨fun z => absurd rfl z, fun _ => ?_⟩)
  · have f0 : f = 0 := by
      rcases P.2.2.2.2.2 with w | w
      · exact w.1
      · exact absurd ag w.2
    rw [f0] at P
    have C := CX_of K P G
    have oE := G.1
    have cr1 : CR E1 E1 b t := ⟨fun _ _ _ _ => rfl, (oE _ _ (by unfold ty; omega) (by unfold ty; omega) (by unfold ty; omega)).trans K.1.2.2.2.2.1, (oE _ _ (by unfold ty; omega) (by unfold ty; omega) (by unfold ty; omega)).trans K.1.2.2.2.2.2⟩
    refine C_gatherKinds C cr1 (fun S1 a1 kk1 => ?_)
    have cr2 : CR S1 E1 b t := ⟨fun a j h1 h2 => a1 a j (by omega), (a1 _ _ (by decide)).trans cr1.2.1, (a1 _ _ (by decide)).trans cr1.2.2⟩
    refine C_gatherFree C cr2 (fun S2 a2 l1 l2 => ?_)
    have cr3 : CR S2 E1 b t := ⟨fun a j h1 h2 => (a2 a j (by omega) (by omega)).trans (a1 a j (by omega)), (a2 _ _ (by decide) (by decide)).trans cr2.2.1, (a2 _ _ (by decide) (by decide)).trans cr2.2.2⟩
    have kk2 : KK S2 D1 h t M1 := fun m m0 m1 u q q0 q1 => (a2 _ _ (by decide) (by omega)).trans (kk1 m m0 m1 u q q0 q1)
    have h3E : S2 (b + 3) = E (b + 3) := funext (fun j => ((a2 _ _ (by omega) (by omega)).trans (a1 _ _ (by omega))).trans (oE _ _ (by unfold ty; omega) (by unfold ty; omega) (by unfold ty; omega)))
    have hO2 : ∀ m n, hasO S2 b m n ↔ hasO E b m n := fun m n => by unfold hasO; rw [h3E]
    have c34 : D1 34 = D 34 := o.eq (by omega)
    have ovD : ∀ m n, ovr D1 h m n ↔ ovr D h m n := fun m n => by unfold ovr; rw [c34]
    have Kc := K.2.1
    refine C_markOverrides C cr3 kk2 l1 l2 (fun m n m0 m1 n0 n1 z => Kc.2.2.2.2.2.2.2 m n (Int.le_trans hM.1 m0) m1 n0 n1 (Or.inl m0) ((hO2 m n).mp z)) (fun m n m0 m1 n0 n1 => ((hO2 m n).trans (Kc.2.2.2.2.1 m n m0 m1 n0 n1)).trans (ovD m n).symm) (fun S3 a3 hO3 ov3 => ?_)
    have e3 : ∀ a j, b ≤ a → a < b + 513 → ¬ a = b + 3 → S3 a j = E1 a j := fun a j h1 h2 h3 => (a3 a j h3).trans (cr3.1 a j h1 h2)
    have C3 := CX_E C e3
    have cr4 : CR S3 S3 b t := ⟨fun _ _ _ _ => rfl, (a3 _ _ (by omega)).trans cr3.2.1, (a3 _ _ (by omega)).trans cr3.2.2⟩
    have kk3 : KK S3 D1 h t M1 := fun m m0 m1 u q q0 q1 => (a3 _ _ (by omega)).trans (kk2 m m0 m1 u q q0 q1)
    have l13 : isL S3 1036 (frN D1 h t M0.toNat) := fun i hi => (a3 _ _ (by omega)).trans (l1 i hi)
    have l23 : S3 1034 4 = (frN D1 h t M0.toNat).length := (a3 _ _ (by omega)).trans l2
    obtain ⟨D2, ⟨o2, rw_, lo⟩, rF⟩ := R_findOver X1 t10
    have e2' : ∀ a, ¬ a = 34 → D2 a = D1 a := fun a ha => funext (fun j => o2 a j ha)
    obtain ⟨X2, B2⟩ := K.bx P o2 rw_ lo
    have d10 : D2 0 10 = h := (o2 _ _ (by decide)).trans t10
    have d28 : D2 0 8 = 0 := (o2 _ _ (by decide)).trans t8
    have d26 : D2 0 6 = D 0 6 := (o2 _ _ (by decide)).trans t6
    have oF2 : offF D D2 h t M0 M1 := by
      intro a j h1 h2 h3
      by_cases c : a = 34
      · rw [c]; rw [lo j (fun w => h2 ⟨c, w.1, w.2⟩), c34]
      · rw [o2 a j c]; exact o a j h1
    have z1 : ∀ a o, M0 ≤ a → a < M1 → 0 ≤ o → o < 120 → D2 34 (120 * (120 * h + a) + o) = 0 ∨ D2 34 (120 * (120 * h + a) + o) = 1 := fun a o a0 a1' o0 o1 => (rw_ a a0 a1').2.2 o o0 o1
    have xs : ∀ a, M0 ≤ a → a < M1 → kSeen D2 h t a 2 ≤ 101 := by
      intro a a0 a1'
      have ks := C.2.2.2.2.2.2.2.2.2.1 a (by omega) a1' (C.own ⟨a0, a1'⟩) 2 (by decide) (by decide) (fun z => absurd z (by decide))
      have v := (C.2.2.2.2.2.2.2.2.2.2 t ht.1 (Int.le_refl _)).1
      have : kSeen D2 h t a 2 = kSeen D1 h t a 2 := by unfold kSeen sVar; rw [e2' 33 (by decide), e2' 28 (by decide), e2' 23 (by decide)]
      rw [this]
      omega
    have oc : ∀ m, M0 ≤ m → m < M1 → OvS D1 h t M0 m (fun n => hasO S3 b m n) := fun m m0 m1 => (ov3 m m0 m1).1
    have O1 : okO D1 h M0 := by
      intro a n a0 a1' n0 n1 z
      have := Kc.2.2.2.2.2.1 a n a0 a1' n0 n1 ((ovD a n).mp z)
      unfold bare at this ⊢
      rw [o.eq (a := 31) (by omega), o.eq (a := 30) (by omega)]
      exact this
    have bi := brk_iff hM o2 (fun c n c0 c1 n0 n1 => by unfold ovr; rw [lo _ (by omega)]) O1 rw_ oc
    have ci := cls_iff hM o2 rw_ oc
    have oEb : offEb E S3 b := by
      intro a j h1 h2 h3 h4
      rw [a3 a j (by omega), a2 a j h4 h2, a1 a j h3, oE a j (by unfold ty; omega) (by unfold ty; omega) (by unfold ty; omega)]
    refine C_hasWrong C3 cr4 kk3 (fun w => ⟨fun z => absurd z (by decide), fun _ => ?_⟩) (fun w => ⟨fun _ => ?_, fun z => absurd rfl z⟩)
    · have w2 := bi.mp w
      obtain ⟨SR', q1, q2, q3, q4⟩ := failed (D := D) (h := h) (t := t) (M0 := M0) (M1 := M1) (f := 9) d28 d26 oF2 (fun k' hk => rT1 k' (fun _ => rF _ (R_breaksAbove (S := D2) (D := D2) (fun _ _ _ _ => rfl) d10 X2 z1 xs (fun _ => ⟨fun z => absurd z (by decide), fun _ => hk⟩) (fun z => absurd w2 z))) (fun z => absurd f0 z))
      exact hf 9 S3 SR' (Or.inr (Or.inr (Or.inl rfl))) oEb q1 q2 q3 q4
    have w2 := fun z => w (bi.mpr z)
    refine C_hasQuarrel C3 cr4 kk3 l13 l23 (fun v => ⟨fun z => absurd z (by decide), fun _ => ?_⟩) (fun v => ⟨fun _ => ?_, fun z => absurd rfl z⟩)
    · have v2 := ci.mp v
      obtain ⟨SR', q1, q2, q3, q4⟩ := failed (D := D) (h := h) (t := t) (M0 := M0) (M1 := M1) (f := 10) d28 d26 oF2 (fun k' hk => rT1 k' (fun _ => rF _ (R_breaksAbove (S := D2) (D := D2) (fun _ _ _ _ => rfl) d10 X2 z1 xs (fun z => absurd z w2) (fun _ => ⟨fun _ => R_clashes (S := D2) (D := D2) (fun _ _ _ _ => rfl) d10 X2 z1 (fun _ => ⟨fun z => absurd z (by decide), fun _ => hk⟩) (fun z => absurd v2 z), fun z => absurd rfl z⟩))) (fun z => absurd f0 z))
      exact hf 10 S3 SR' (Or.inr (Or.inr (Or.inr rfl))) oEb q1 q2 q3 q4
    have v2 := fun z => v (ci.mpr z)
    have hO4 : ∀ m n, M0 ≤ m → m < M1 → 0 ≤ n → n < M0 → (hasO S3 b m n ↔ ovr D2 h m n) := fun m n m0 m1 n0 n1 => over_iff hM (rw_ m m0 m1) (oc m m0 m1) n n0 n1
    have a33 : ∀ a j, ¬ a = 1035 → ¬ a = 1036 → ¬ (a = 1034 ∧ j = 4) → ¬ a = b + 3 → S3 a j = E1 a j := fun a j h1 h2 h3 h4 => ((a3 a j h4).trans (a2 a j h2 h3)).trans (a1 a j h1)
    have CBs := K.cb P G o2 a33 hO4
    have hbase : 0 ≤ base ∧ base ≤ 2760 := by
      have := Kc.2.2.2.1
      omega
    have d5 : D2 5 h = base := by
      rw [e2' 5 (by decide), o.eq (a := 5) (by omega)]
      exact K.2.2.2.2.2.2.2.2.2.2.2
    obtain ⟨SR', lr, rB⟩ := R_makeBridges B2 d10 hbase d5
    refine C_makeBridges B2 CBs hbase (fun S' lc => ?_)
    refine hs E1 D1 S3 D2 S' SR' nw P G o2 rw_ lo a33 (fun m' n m0 m1 mm n0 n1 => (hO3 m' n m0 m1 mm n0 n1).trans (hO2 m' n)) hO4 (fun m n m0 m1 n0 n1 => (ov3 m m0 m1).2 n n0 n1) B2 lr lc (fun k' hk => ?_)
    exact rT1 k' (fun _ => rF _ (R_breaksAbove (S := D2) (D := D2) (fun _ _ _ _ => rfl) d10 X2 z1 xs (fun z => absurd z w2) (fun _ => ⟨fun _ => R_clashes (S := D2) (D := D2) (fun _ _ _ _ => rfl) d10 X2 z1 (fun z => absurd z v2) (fun _ => ⟨fun _ => rB _ hk, fun z => absurd rfl z⟩), fun z => absurd rfl z⟩))) (fun z => absurd f0 z)
  · have f1 : ¬ f = 0 := by
      intro f0
      rcases P.2.2.2.2.2 with w | w
      · refine ag (fun e he e' he' ee => ?_)
        have s1 := w.2 e he
        have s2 := w.2 e' he'
        rw [← ee] at s2
        exact ⟨fun z => (s1.1 z).trans (s2.1 z).symm, fun z => (s1.2 z).trans (s2.2 z).symm⟩
      · exact absurd (f0.symm.trans w.1) (by decide)
    obtain ⟨SR', q1, q2, q3, q4⟩ := failed (D := D) (h := h) (t := t) (M0 := M0) (M1 := M1) (f := 8) t8 t6 oF1 (fun k' hk => rT1 k' (fun z => absurd z f1) (fun _ => hk))
    exact hf 8 S' SR' (Or.inr (Or.inl rfl)) (fun a j h1 h2 h3 h4 => oX a j (by unfold ty; omega) (by unfold ty; omega) (by unfold ty; omega)) q1 q2 q3 q4
end Run2
