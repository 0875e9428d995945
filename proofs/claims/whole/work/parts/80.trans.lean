/-! pure: what holds of a court holds of any store that agrees on its rows -/
def AgR (D D' : St) (h n nm nb : Int) : Prop :=
  (∀ a t, (8 ≤ a ∧ a ≤ 13) ∨ a = 16 ∨ a = 19 ∨ a = 20 ∨ (24 ≤ a ∧ a ≤ 27) → 0 ≤ t → t < n → D' a (24 * h + t) = D a (24 * h + t)) ∧
  (∀ a t k, a = 14 ∨ a = 15 → 0 ≤ t → t < n → 0 ≤ k → k ≤ 1 → D' a (2 * (24 * h + t) + k) = D a (2 * (24 * h + t) + k)) ∧
  (∀ t i, 0 ≤ t → t < n → 0 ≤ i → i < 4 → D' 17 (5 * (24 * h + t) + i) = D 17 (5 * (24 * h + t) + i)) ∧
  (∀ a t x, a = 21 ∨ a = 22 → 0 ≤ t → t < n → 0 ≤ x → x < 24 → D' a (24 * (24 * h + t) + x) = D a (24 * (24 * h + t) + x)) ∧
  (∀ t x k, 0 ≤ t → t < n → 0 ≤ x → x < 24 → 0 ≤ k → k ≤ 1 → D' 23 (2 * (24 * (24 * h + t) + x) + k) = D 23 (2 * (24 * (24 * h + t) + x) + k)) ∧
  (∀ a m, 28 ≤ a → a ≤ 32 → 0 ≤ m → m < nm → D' a (120 * h + m) = D a (120 * h + m)) ∧
  (∀ m q, 0 ≤ m → m < nm → 0 ≤ q → q ≤ 2 → D' 33 (3 * (120 * h + m) + q) = D 33 (3 * (120 * h + m) + q)) ∧
  (∀ m q, 0 ≤ m → m < nm → 0 ≤ q → q < 120 → D' 34 (120 * (120 * h + m) + q) = D 34 (120 * (120 * h + m) + q)) ∧
  (∀ a i, a = 35 ∨ a = 36 → 0 ≤ i → i < nb → D' a (7200 * h + i) = D a (7200 * h + i))
section Trans
variable {D D' : St} {h n nm nb : Int}
theorem tr_okM (A : AgR D D' h n nm nb) {m : Int} (hm : 0 ≤ m ∧ m < nm) (g : okM D h m) : okM D' h m := by
  obtain ⟨a1, a2, a3, a4, a5, a6, a7, a8, a9⟩ := A
  unfold okM at g ⊢
  rw [a6 28 m (by decide) (by decide) hm.1 hm.2, a6 32 m (by decide) (by decide) hm.1 hm.2]
  exact ⟨g.1, g.2.1, g.2.2.1, fun q q0 q1 => by rw [a7 m q hm.1 hm.2 q0 q1]; exact g.2.2.2 q q0 q1⟩
theorem tr_kEr (A : AgR D D' h n nm nb) {m q : Int} (hm : 0 ≤ m ∧ m < nm) (g : okM D h m) (ht : D 28 (120 * h + m) < n) (hq : 0 ≤ q ∧ q ≤ 2) : kEr D' h m q = kEr D h m q := by
  obtain ⟨a1, a2, a3, a4, a5, a6, a7, a8, a9⟩ := A
  unfold kEr bnd
  rw [a6 28 m (by decide) (by decide) hm.1 hm.2, a7 m q hm.1 hm.2 hq.1 hq.2]
  have := g.2.2.2 q hq.1 hq.2
  split
  · rename_i c
    have e := a2 15 (D 28 (120 * h + m)) (D 33 (3 * (120 * h + m) + q) - 100) (Or.inr rfl) g.2.1.1 ht (by omega) (by omega)
    rw [show 2 * (24 * h + D 28 (120 * h + m)) + D 33 (3 * (120 * h + m) + q) - 100 = 2 * (24 * h + D 28 (120 * h + m)) + (D 33 (3 * (120 * h + m) + q) - 100) by omega]
    exact e
  · rfl
theorem tr_sou (A : AgR D D' h n nm nb) {a b : Int} (ha : 0 ≤ a ∧ a < nm) (hb : 0 ≤ b ∧ b < nm) (ga : okM D h a) (gb : okM D h b) (ta : D 28 (120 * h + a) < n) (tb : D 28 (120 * h + b) < n) : sou D' h a b ↔ sou D h a b := by
  have ea := fun q (hq : 0 ≤ q ∧ q ≤ 2) => tr_kEr A ha ga ta hq
  have eb := fun q (hq : 0 ≤ q ∧ q ≤ 2) => tr_kEr A hb gb tb hq
  have ca := ga.2.2.1
  obtain ⟨a1, a2, a3, a4, a5, a6, a7, a8, a9⟩ := A
  unfold sou erL
  rw [a6 29 a (by decide) (by decide) ha.1 ha.2, a6 29 b (by decide) (by decide) hb.1 hb.2, a6 32 a (by decide) (by decide) ha.1 ha.2, a6 32 b (by decide) (by decide) hb.1 hb.2, ea 2 (by decide), eb 2 (by decide)]
  constructor
  · rintro ⟨⟨x, y, z⟩, w⟩
    exact ⟨⟨x, y, fun q q0 q1 => by rw [← ea q ⟨q0, by omega⟩, ← eb q ⟨q0, by omega⟩]; exact z q q0 q1⟩, w⟩
  · rintro ⟨⟨x, y, z⟩, w⟩
    exact ⟨⟨x, y, fun q q0 q1 => by rw [ea q ⟨q0, by omega⟩, eb q ⟨q0, by omega⟩]; exact z q q0 q1⟩, w⟩
/-- a type's METHODS lie within -/
def inR (D : St) (h n nm nb t : Int) : Prop := (0 ≤ t ∧ t < n) ∧ D 24 (24 * h + t) + D 25 (24 * h + t) ≤ nm ∧ D 26 (24 * h + t) + D 27 (24 * h + t) ≤ nb ∧ (∀ i, D 26 (24 * h + t) ≤ i → i < D 26 (24 * h + t) + D 27 (24 * h + t) → D 36 (7200 * h + i) < nm ∧ D 28 (120 * h + D 36 (7200 * h + i)) < n) ∧ ∀ m, D 24 (24 * h + t) ≤ m → m < D 24 (24 * h + t) + D 25 (24 * h + t) → D 28 (120 * h + m) < n
theorem tr_mIn (A : AgR D D' h n nm nb) {t q r : Int} (hT : okT D h t) (I : inR D h n nm nb t) (hq : 0 ≤ q ∧ q < nm) (gq : okM D h q) (tq : D 28 (120 * h + q) < n) : mIn D h t q r → mIn D' h t q r := by
  obtain ⟨tt, tF, tB, tM, tW⟩ := hT
  obtain ⟨i1, i2, i3, i4, i5⟩ := I
  have sm : ∀ y, D 24 (24 * h + t) ≤ y → y < D 24 (24 * h + t) + D 25 (24 * h + t) → (sou D' h y q ↔ sou D h y q) := fun y y0 y1 => tr_sou A ⟨by omega, by omega⟩ hq (tM y y0 y1) gq (i5 y y0 y1) tq
  have sb : ∀ y, D 26 (24 * h + t) ≤ y → y < D 26 (24 * h + t) + D 27 (24 * h + t) → (sou D' h (D' 36 (7200 * h + y)) q ↔ sou D h (D 36 (7200 * h + y)) q) := by
    intro y y0 y1
    rw [A.2.2.2.2.2.2.2.2 36 y (Or.inr rfl) (by omega) (by omega)]
    have g := tW y y0 y1
    exact tr_sou A ⟨g.1.1, (i4 y y0 y1).1⟩ hq g gq (i4 y y0 y1).2 tq
  have e24 := A.1 24 t (by omega) i1.1 i1.2
  have e25 := A.1 25 t (by omega) i1.1 i1.2
  have e26 := A.1 26 t (by omega) i1.1 i1.2
  have e27 := A.1 27 t (by omega) i1.1 i1.2
  unfold mIn
  rw [e24, e25, e26, e27]
  rintro (⟨g1, g2, g3, g4⟩ | ⟨g1, g2⟩)
  · exact Or.inl ⟨g1, g2, (sm r g1 g2).mpr g3, fun y y0 y1 z => g4 y y0 y1 ((sm y y0 (by omega)).mp z)⟩
  · refine Or.inr ⟨fun y y0 y1 z => g1 y y0 y1 ((sm y y0 y1).mp z), ?_⟩
    rcases g2 with ⟨f1, f2, f3, f4⟩ | ⟨f1, f2⟩
    · exact Or.inl ⟨f1, f2, (sb _ f1 f2).mpr f3, fun y y0 y1 z => f4 y y0 y1 ((sb y y0 (by omega)).mp z)⟩
    · exact Or.inr ⟨f1, fun y y0 y1 z => f2 y y0 y1 ((sb y y0 y1).mp z)⟩
theorem tr_okT (A : AgR D D' h n nm nb) {t : Int} (I : inR D h n nm nb t) (g : okT D h t) : okT D' h t := by
  obtain ⟨i1, i2, i3, i4, i5⟩ := I
  have e24 := A.1 24 t (by omega) i1.1 i1.2
  have e25 := A.1 25 t (by omega) i1.1 i1.2
  have e26 := A.1 26 t (by omega) i1.1 i1.2
  have e27 := A.1 27 t (by omega) i1.1 i1.2
  obtain ⟨g1, g2, g3, g4, g5⟩ := g
  unfold okT
  rw [e24, e25, e26, e27]
  refine ⟨g1, g2, g3, fun x x0 x1 => tr_okM A ⟨by omega, by omega⟩ (g4 x x0 x1), fun y y0 y1 => ?_⟩
  rw [A.2.2.2.2.2.2.2.2 36 y (Or.inr rfl) (by omega) (by omega)]
  exact tr_okM A ⟨(g5 y y0 y1).1.1, (i4 y y0 y1).1⟩ (g5 y y0 y1)
theorem tr_mI (A : AgR D D' h n nm nb) {t q : Int} (hT : okT D h t) (I : inR D h n nm nb t) (hq : 0 ≤ q ∧ q < nm) (gq : okM D h q) (tq : D 28 (120 * h + q) < n) : mI D' h t q = mI D h t q := (mI_eq (tr_okT A I hT) (tr_mIn A hT I hq gq tq (mI_spec D h t q))).symm
theorem tr_und (A : AgR D D' h n nm nb) {t x : Int} (ht : 0 ≤ t ∧ t < n) (hx : 0 ≤ x ∧ x < 24) : und D' h t x ↔ und D h t x := by
  unfold und
  rw [A.2.2.2.1 22 t x (Or.inr rfl) ht.1 ht.2 hx.1 hx.2]
theorem tr_okU (A : AgR D D' h n nm nb) {t : Int} (h24 : n ≤ 24) (hT : okT D h t) (I : inR D h n nm nb t) (J : ∀ i, D 26 (24 * h + t) ≤ i → i < D 26 (24 * h + t) + D 27 (24 * h + t) → D 35 (7200 * h + i) < nm) (g : okU D h t) : okU D' h t := by
  have i1 := I.1
  have i3 := I.2.2.1
  have tB := hT.2.2.1
  have e19 := A.1 19 t (by omega) i1.1 i1.2
  have e20 := A.1 20 t (by omega) i1.1 i1.2
  have e26 := A.1 26 t (by omega) i1.1 i1.2
  have e27 := A.1 27 t (by omega) i1.1 i1.2
  obtain ⟨g1, g2, g3, g4⟩ := g
  unfold okU
  rw [e19, e20, e26, e27]
  refine ⟨g1, g2, fun i i0 i1' => ?_, fun y y0 y1 => ?_⟩
  · have : ab D' h t i = ab D h t i := A.2.2.2.1 21 t i (Or.inl rfl) i1.1 i1.2 i0 (by omega)
    rw [this]; exact g3 i i0 i1'
  · rw [A.2.2.2.2.2.2.2.2 35 y (Or.inl rfl) (by omega) (by omega)]
    exact tr_okM A ⟨(g4 y y0 y1).1.1, J y y0 y1⟩ (g4 y y0 y1)
theorem tr_okV (A : AgR D D' h n nm nb) {t : Int} (h24 : n ≤ 24) (hT : okT D h t) (hU : okU D h t) (I : inR D h n nm nb t) (g : okV D h t) : okV D' h t := by
  have I' := I
  obtain ⟨i1, i2, i3, i4, i5⟩ := I
  have e11 := A.1 11 t (by omega) i1.1 i1.2
  have e16 := A.1 16 t (by omega) i1.1 i1.2
  have e19 := A.1 19 t (by omega) i1.1 i1.2
  have e24 := A.1 24 t (by omega) i1.1 i1.2
  have e25 := A.1 25 t (by omega) i1.1 i1.2
  have e26 := A.1 26 t (by omega) i1.1 i1.2
  have e27 := A.1 27 t (by omega) i1.1 i1.2
  obtain ⟨v1, v2, v3, v4, v5, v6, v7⟩ := g
  have tF := hT.2.1
  have tB := hT.2.2.1
  have hp := hU.1
  unfold okV
  rw [e11, e16, e19, e24, e25, e26, e27]
  refine ⟨v1, v2, v3, fun z => ?_, fun m m0 m1 => ?_, fun y y0 y1 => ?_, fun x x0 x1 z => ?_⟩
  · rw [A.1 11 _ (by omega) z (by omega)]; exact v4 z
  · have w := v5 m m0 m1
    rw [A.2.2.2.2.2.1 28 m (by decide) (by decide) (by omega) (by omega), A.2.2.2.2.2.1 30 m (by decide) (by decide) (by omega) (by omega), tr_mI A hT I' ⟨by omega, by omega⟩ (hT.2.2.2.1 m m0 m1) (i5 m m0 m1)]
    exact w
  · obtain ⟨w1, w2, w3, w4, w5⟩ := v6 y y0 y1
    rw [A.2.2.2.2.2.2.2.2 35 y (Or.inl rfl) (by omega) (by omega), A.2.2.2.2.2.2.2.2 36 y (Or.inr rfl) (by omega) (by omega), A.2.2.2.2.2.1 31 _ (by decide) (by decide) (by omega) (by omega), A.2.2.2.2.2.1 30 _ (by decide) (by decide) (by omega) (by omega)]
    have gb := hT.2.2.2.2 y y0 y1
    rw [tr_mI A hT I' ⟨gb.1.1, (i4 y y0 y1).1⟩ gb (i4 y y0 y1).2]
    exact ⟨w1, w2, w3, w4, w5⟩
  · rw [A.2.2.2.1 22 t x (Or.inr rfl) i1.1 i1.2 x0 x1] at z
    have w := v7 x x0 x1 z
    refine ⟨w.1, fun z2 => ?_⟩
    rw [A.1 11 x (by omega) x0 (by omega)] at z2
    have w2 := w.2 z2
    exact ⟨w2.1, (tr_und A ⟨w2.1, by omega⟩ ⟨x0, x1⟩).mpr w2.2⟩
theorem tr_rTy {E : St} {b : Int} (A : AgR D D' h n nm nb) {t : Int} (h24 : n ≤ 24) (ht : 0 ≤ t ∧ t < n) (v2 : ∀ u, 0 ≤ u → u ≤ t → 0 ≤ D 13 (24 * h + u) ∧ D 13 (24 * h + u) ≤ 2) (r4 : 0 ≤ D 16 (24 * h + t) ∧ D 16 (24 * h + t) ≤ 4) (a24 : D 20 (24 * h + t) ≤ t) (lt : ∀ x, 0 ≤ x → x < 24 → ¬ D 22 (24 * (24 * h + t) + x) = 0 → x < t) (r : rTy E b D h t) : rTy E b D' h t := by
  obtain ⟨a1, a2, a3, a4, a5, a6, a7, a8, a9⟩ := A
  obtain ⟨q1, q2, q3, q4, q5, q6⟩ := r
  have e : ∀ a, (8 ≤ a ∧ a ≤ 13) ∨ a = 16 ∨ a = 19 ∨ a = 20 ∨ (24 ≤ a ∧ a ≤ 27) → D' a (24 * h + t) = D a (24 * h + t) := fun a ha => a1 a t ha ht.1 ht.2
  have vt := v2 t ht.1 (Int.le_refl _)
  refine ⟨?_, ?_, ?_, ?_, ?_, ?_⟩
  · unfold rT at q1 ⊢
    rw [e 8 (by omega), e 9 (by omega), e 10 (by omega), e 11 (by omega), e 12 (by omega), e 13 (by omega)]
    refine ⟨q1.1, q1.2.1, q1.2.2.1, q1.2.2.2.1, q1.2.2.2.2.1, q1.2.2.2.2.2.1, q1.2.2.2.2.2.2.1, fun k k0 k1 => ?_⟩
    rw [a2 14 t k (Or.inl rfl) ht.1 ht.2 k0 (by omega), a2 15 t k (Or.inr rfl) ht.1 ht.2 k0 (by omega)]
    exact q1.2.2.2.2.2.2.2 k k0 k1
  · unfold rR at q2 ⊢
    rw [e 16 (by omega), e 19 (by omega)]
    refine ⟨q2.1, fun i i0 i1 => ?_, q2.2.2⟩
    rw [a3 t i ht.1 ht.2 i0 (by omega)]
    exact q2.2.1 i i0 i1
  · unfold rF at q3 ⊢
    rw [e 24 (by omega), e 25 (by omega)]
    exact q3
  · unfold rA at q4 ⊢
    rw [e 20 (by omega)]
    refine ⟨q4.1, fun i i0 i1 => ?_, fun x x0 x1 => ?_⟩
    · have : ab D' h t i = ab D h t i := a4 21 t i (Or.inl rfl) ht.1 ht.2 i0 (by omega)
      rw [this]; exact q4.2.1 i i0 i1
    · rw [a4 22 t x (Or.inr rfl) ht.1 ht.2 x0 x1]; exact q4.2.2 x x0 x1
  · intro x x0 x1 u k k0 k1
    have u' : und D h t x := by
      unfold und at u ⊢
      rw [a4 22 t x (Or.inr rfl) ht.1 ht.2 x0 x1] at u
      exact u
    have xt : x ≤ t := by
      rcases u' with w | w
      · omega
      · have := lt x x0 x1 w; omega
    rw [a1 13 x (by omega) x0 (by omega)] at k1
    have vx := v2 x x0 xt
    have := q5 x x0 x1 u' k k0 k1
    rw [this]
    unfold sVar
    rw [a5 t x k ht.1 ht.2 x0 x1 k0 (by omega)]
  · unfold rB at q6 ⊢
    rw [e 26 (by omega), e 27 (by omega)]
    exact q6
theorem tr_rM {E : St} {b : Int} (A : AgR D D' h n nm nb) {m : Int} (hm : 0 ≤ m ∧ m < nm) (g : okM D h m) (ht : D 28 (120 * h + m) < n) (r : rM E b D h m) : rM E b D' h m := by
  have ek := fun q (hq : 0 ≤ q ∧ q ≤ 2) => tr_kEr A hm g ht hq
  obtain ⟨a1, a2, a3, a4, a5, a6, a7, a8, a9⟩ := A
  unfold rM kOr at r ⊢
  rw [a6 29 m (by decide) (by decide) hm.1 hm.2, a6 28 m (by decide) (by decide) hm.1 hm.2, a6 30 m (by decide) (by decide) hm.1 hm.2, a6 31 m (by decide) (by decide) hm.1 hm.2, a6 32 m (by decide) (by decide) hm.1 hm.2]
  refine ⟨r.1, r.2.1, r.2.2.1, r.2.2.2.1, r.2.2.2.2.1, fun k k0 k1 => ?_⟩
  rw [a7 m k hm.1 hm.2 k0 k1, ek k ⟨k0, k1⟩]
  exact r.2.2.2.2.2 k k0 k1
/-- a whole court -/
theorem tr_okA (A : AgR D D' h (D 3 h) (D 4 h) (D 5 h)) (c3 : D' 3 h = D 3 h) (c4 : D' 4 h = D 4 h) (c5 : D' 5 h = D 5 h) (O : okA D h) : okA D' h := by
  obtain ⟨⟨⟨h24, hc⟩, hv⟩, n0, m0, b0, oM, oZ⟩ := O
  have inr : ∀ t, 0 ≤ t → t < D 3 h → inR D h (D 3 h) (D 4 h) (D 5 h) t := by
    intro t t0 t1
    obtain ⟨z1, z2, z3⟩ := oZ t t0 t1
    have hT := (hc t t0 t1).1
    refine ⟨⟨t0, t1⟩, z1, z2, fun i i0 i1 => ⟨z3 i i0 i1, ?_⟩, fun m a c => ?_⟩
    · exact (oM _ (hT.2.2.2.2 i i0 i1).1.1 (z3 i i0 i1)).2.1
    · exact (oM m (by have := hT.2.1; omega) (by omega)).2.1
  unfold okA okW okC
  rw [c3, c4, c5]
  refine ⟨⟨⟨h24, fun t t0 t1 => ⟨tr_okT A (inr t t0 t1) (hc t t0 t1).1, tr_okU A h24 (hc t t0 t1).1 (inr t t0 t1) (fun i i0 i1 => ?_) (hc t t0 t1).2⟩⟩, fun t t0 t1 => tr_okV A h24 (hc t t0 t1).1 (hc t t0 t1).2 (inr t t0 t1) (hv t t0 t1)⟩, n0, m0, b0, fun m a c => ?_, fun t t0 t1 => ?_⟩
  · have w := ((hv t t0 t1).2.2.2.2.2.1 i i0 i1).1
    have z1 := (oZ t t0 t1).1
    omega
  · have g := oM m a c
    have g28 := g.1.2.1
    rw [A.2.2.2.2.2.1 28 m (by decide) (by decide) a c, A.1 24 _ (by omega) g28.1 g.2.1, A.1 25 _ (by omega) g28.1 g.2.1]
    exact ⟨tr_okM A ⟨a, c⟩ g.1, g.2⟩
  · obtain ⟨z1, z2, z3⟩ := oZ t t0 t1
    have tB := (hc t t0 t1).1.2.2.1
    unfold okZ
    rw [c4, c5, A.1 24 t (by omega) t0 t1, A.1 25 t (by omega) t0 t1, A.1 26 t (by omega) t0 t1, A.1 27 t (by omega) t0 t1]
    refine ⟨z1, z2, fun i i0 i1 => ?_⟩
    rw [A.2.2.2.2.2.2.2.2 36 i (Or.inr rfl) (by omega) (by omega)]
    exact z3 i i0 i1
theorem tr_okK (A : AgR D D' h (D 3 h) (D 4 h) (D 5 h)) (c4 : D' 4 h = D 4 h) (O : okA D h) (K : okK D h) : okK D' h := by
  obtain ⟨⟨⟨h24, hc⟩, hv⟩, n0, m0, b0, oM, oZ⟩ := O
  unfold okK
  rw [c4]
  refine ⟨fun m q a c q0 q1 q2 => ?_, fun m k a c k0 k1 => ?_⟩
  · have g := oM m a c
    rw [A.2.2.2.2.2.1 32 m (by decide) (by decide) a c] at q2
    have k := K.1 m q a c q0 q1 q2
    rw [A.2.2.2.2.2.2.1 m q a c q0 q1, tr_kEr A ⟨a, c⟩ g.1 g.2.1 ⟨q0, q1⟩, A.2.2.2.2.2.1 28 m (by decide) (by decide) a c, A.1 13 _ (by omega) g.1.2.1.1 g.2.1]
    exact k
  · rw [A.2.2.2.2.2.2.2.1 m k a c k0 (by omega)]
    exact K.2 m k a c k0 k1
theorem tr_Rel {E : St} {b : Int} (A : AgR D D' h (D 3 h) (D 4 h) (D 5 h)) (c3 : D' 3 h = D 3 h) (c4 : D' 4 h = D 4 h) (c5 : D' 5 h = D 5 h) (c6 : D' 6 h = D 6 h) (O : okA D h) (v13 : ∀ u, 0 ≤ u → u < D 3 h → 0 ≤ D 13 (24 * h + u) ∧ D 13 (24 * h + u) ≤ 2) (R : Rel E b D h) : Rel E b D' h := by
  obtain ⟨⟨⟨h24, hc⟩, hv⟩, n0, m0, b0, oM, oZ⟩ := O
  obtain ⟨r1, r2, r3, r4, r5, r6⟩ := R
  unfold Rel rMs rGs rBs rOs
  rw [c3, c4, c5, c6]
  refine ⟨r1, fun t t0 t1 => ?_, fun m a c => tr_rM A ⟨a, c⟩ (oM m a c).1 (oM m a c).2.1 (r3 m a c), fun m q a c d e => ?_, fun i i0 i1 => ?_, fun m k a c d e => ?_⟩
  · have hV := hv t t0 t1
    exact tr_rTy A h24 ⟨t0, t1⟩ (fun u u0 u1 => v13 u u0 (by omega)) hV.2.1 (hc t t0 t1).2.2.1.2 (fun x x0 x1 z => (hV.2.2.2.2.2.2 x x0 x1 z).1) (r2 t t0 t1)
  · rw [tr_sou A ⟨a, c⟩ ⟨d, e⟩ (oM m a c).1 (oM q d e).1 (oM m a c).2.1 (oM q d e).2.1]
    exact r4 m q a c d e
  · rw [A.2.2.2.2.2.2.2.2 35 i (Or.inl rfl) i0 i1, A.2.2.2.2.2.2.2.2 36 i (Or.inr rfl) i0 i1]
    exact r5 i i0 i1
  · unfold ovr
    rw [A.2.2.2.2.2.2.2.1 m k a c d (by omega)]
    exact r6 m k a c d e
end Trans
