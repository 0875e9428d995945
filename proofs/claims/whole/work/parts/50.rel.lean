/-! pure: the class's family and the reference's court; the small methods of the class -/
/-- the family at b is as E has it -/
def AgC (S E : St) (b : Int) : Prop := ∀ a j, b ≤ a → a < b + 513 → S a j = E a j
theorem AgC.refl (S : St) (b : Int) : AgC S S b := fun _ _ _ _ => rfl
def ty (b t : Int) : Int := b + 6 + 6 * t
def me (b m : Int) : Int := b + 150 + 3 * m
/-- a type's head, its REFS, its members, those above it, what it sees, its BRIDGES -/
def rT (E : St) (b : Int) (D : St) (h t : Int) : Prop := E (ty b t) 0 = t ∧ E (ty b t) 1 = D 8 (24 * h + t) ∧ E (ty b t) 2 = D 9 (24 * h + t) ∧ E (ty b t) 3 = D 10 (24 * h + t) ∧ E (ty b t) 4 = D 11 (24 * h + t) ∧ E (ty b t) 5 = D 12 (24 * h + t) ∧ E (ty b t) 6 = D 13 (24 * h + t) ∧ ∀ k, 0 ≤ k → k < D 13 (24 * h + t) → E (ty b t + 1) k = D 14 (2 * (24 * h + t) + k) ∧ E (ty b t + 2) k = D 15 (2 * (24 * h + t) + k)
def rR (E : St) (b : Int) (D : St) (h t : Int) : Prop := E (ty b t) 9 = D 16 (24 * h + t) ∧ (∀ i, 0 ≤ i → i < D 16 (24 * h + t) → E (ty b t + 3) i = D 17 (5 * (24 * h + t) + i)) ∧ E (ty b t) 11 = (if D 19 (24 * h + t) = -13 then -1 else D 19 (24 * h + t))
def rF (E : St) (b : Int) (D : St) (h t : Int) : Prop := E (ty b t) 16 = D 24 (24 * h + t) ∧ E (ty b t) 17 = D 25 (24 * h + t)
/-- bit x of v -/
def bit (v x : Int) : Prop := ¬ and32 (ushr32 v x) 1 = 0
def rA (E : St) (b : Int) (D : St) (h t : Int) : Prop := E (ty b t) 12 = D 20 (24 * h + t) ∧ (∀ i, 0 ≤ i → i < D 20 (24 * h + t) → E (ty b t + 4) i = ab D h t i) ∧ ∀ x, 0 ≤ x → x < 24 → (bit (E (ty b t) 14) x ↔ ¬ D 22 (24 * (24 * h + t) + x) = 0)
def rS (E : St) (b : Int) (D : St) (h t : Int) : Prop := ∀ x, 0 ≤ x → x < 24 → und D h t x → ∀ k, 0 ≤ k → k < D 13 (24 * h + x) → E (ty b t + 5) (2 * x + k) = sVar D h t x k
def rB (E : St) (b : Int) (D : St) (h t : Int) : Prop := E (ty b t) 18 = D 26 (24 * h + t) ∧ E (ty b t) 19 = D 27 (24 * h + t)
/-- a member; two members' signatures; BRIDGES; who overrides -/
def kOr (D : St) (h m k v : Int) : Int := if k < 2 ∧ D 32 (120 * h + m) ≤ k then -9 else v
def rM (E : St) (b : Int) (D : St) (h m : Int) : Prop := E (me b m) 0 = D 29 (120 * h + m) ∧ E (me b m) 1 = D 28 (120 * h + m) ∧ E (me b m) 2 = D 30 (120 * h + m) ∧ E (me b m) 3 = D 31 (120 * h + m) ∧ E (me b m) 4 = D 32 (120 * h + m) ∧ ∀ k, 0 ≤ k → k ≤ 2 → E (me b m + 1) k = kOr D h m k (D 33 (3 * (120 * h + m) + k)) ∧ E (me b m + 2) k = kOr D h m k (kEr D h m k)
def rMs (E : St) (b : Int) (D : St) (h nm : Int) : Prop := ∀ m, 0 ≤ m → m < nm → rM E b D h m
def rGs (E : St) (b : Int) (D : St) (h nm : Int) : Prop := ∀ m q, 0 ≤ m → m < nm → 0 ≤ q → q < nm → (E (me b m) 7 = E (me b q) 7 ↔ sou D h m q)
def rBs (E : St) (b : Int) (D : St) (h nb : Int) : Prop := ∀ i, 0 ≤ i → i < nb → E (b + 4) i = D 35 (7200 * h + i) ∧ E (b + 5) i = D 36 (7200 * h + i)
def hasO (E : St) (b m n : Int) : Prop := ¬ and64 (ushr64 (E (b + 3) (w32 (w32 (m * 2) + shr32 n 6))) (and32 n 63)) 1 = 0
def ovr (D : St) (h m n : Int) : Prop := ¬ D 34 (120 * (120 * h + m) + n) = 0
def rOs (E : St) (b : Int) (D : St) (h nm : Int) : Prop := ∀ m n, 0 ≤ m → m < nm → 0 ≤ n → n < nm → (hasO E b m n ↔ ovr D h m n)
theorem C_isUnder {S E D : St} {b h t u : Int} {k : Int → Prop} (A : AgC S E b) (ht : 0 ≤ t ∧ t < 24) (hu : 0 ≤ u ∧ u < 24) (rt : ¬ t = u → rA E b D h t) (h1 : und D h t u → k 1) (h0 : ¬ und D h t u → k 0) : wX2_isUnder S b t u k := by
  unfold wX2_isUnder wX2_isUnder_0
  refine ⟨fun c => h1 (Or.inl c), fun c => ⟨ht, fun x ex => ?_⟩⟩
  have r := (rt c).2.2 u hu.1 hu.2
  have e : S x 14 = E (ty b t) 14 := by rw [ex]; exact A _ _ (by omega) (by omega)
  rw [e]
  unfold bit at r
  refine ⟨fun z => h0 ?_, fun z => h1 (Or.inr (r.mp z))⟩
  rintro (g | g)
  · exact c g
  · exact r.mpr g z
theorem C_isBelow {S E D : St} {b h t u : Int} {k : Int → Prop} (A : AgC S E b) (ht : 0 ≤ t ∧ t < 24) (hu : 0 ≤ u ∧ u < 24) (rt : rA E b D h t) (h1 : ¬ D 22 (24 * (24 * h + t) + u) = 0 → k 1) (h0 : D 22 (24 * (24 * h + t) + u) = 0 → k 0) : wX6_isBelow S (ty b t) u k := by
  unfold wX6_isBelow wX6_isBelow_0
  have r := rt.2.2 u hu.1 hu.2
  have e : S (ty b t) 14 = E (ty b t) 14 := A _ _ (by unfold ty; omega) (by unfold ty; omega)
  rw [e]
  unfold bit at r
  refine ⟨fun z => h0 ?_, fun z => h1 (r.mp z)⟩
  exact Classical.byContradiction (fun g => r.mpr g z)
theorem C_samePackage {S E D : St} {b h t u : Int} {k : Int → Prop} (A : AgC S E b) (ht : 0 ≤ t ∧ t < 24) (hu : 0 ≤ u ∧ u < 24) (rt : rT E b D h t) (ru : rT E b D h u) (h1 : sam D h t u → k 1) (h0 : ¬ sam D h t u → k 0) : wX2_samePackage S b t u k := by
  unfold wX2_samePackage wX2_samePackage_0
  obtain ⟨_, _, t2, t3, _⟩ := rt
  obtain ⟨_, _, u2, u3, _⟩ := ru
  refine ⟨ht, fun x ex => ⟨hu, fun y ey => ?_⟩⟩
  have ex : x = ty b t := ex
  have ey : y = ty b u := ey
  subst ex; subst ey
  rw [A (ty b t) 2 (by unfold ty; omega) (by unfold ty; omega), A (ty b u) 2 (by unfold ty; omega) (by unfold ty; omega), t2, u2]
  refine ⟨fun z => h0 (fun g => z g.1), fun z => ⟨ht, fun x ex => ⟨hu, fun y ey => ?_⟩⟩⟩
  have ex : x = ty b t := ex
  have ey : y = ty b u := ey
  subst ex; subst ey
  rw [A (ty b t) 3 (by unfold ty; omega) (by unfold ty; omega), A (ty b u) 3 (by unfold ty; omega) (by unfold ty; omega), t3, u3]
  exact ⟨fun z2 => h0 (fun g => z2 g.2), fun z2 => h1 ⟨z, z2⟩⟩
theorem C_sameNest {S E D : St} {b h t u : Int} {k : Int → Prop} (A : AgC S E b) (ht : 0 ≤ t ∧ t < 24) (hu : 0 ≤ u ∧ u < 24) (rt : rT E b D h t) (ru : rT E b D h u) (h1 : nst D h t u → k 1) (h0 : ¬ nst D h t u → k 0) : wX2_sameNest S b t u k := by
  unfold wX2_sameNest wX2_sameNest_0
  obtain ⟨_, _, _, _, _, t5, _⟩ := rt
  obtain ⟨_, _, _, _, _, u5, _⟩ := ru
  refine ⟨ht, fun x ex => ⟨hu, fun y ey => ?_⟩⟩
  have ex : x = ty b t := ex
  have ey : y = ty b u := ey
  subst ex; subst ey
  rw [A (ty b t) 5 (by unfold ty; omega) (by unfold ty; omega), A (ty b u) 5 (by unfold ty; omega) (by unfold ty; omega), t5, u5]
  exact ⟨fun z => h0 z, fun z => h1 z⟩
theorem C_isFace {S E D : St} {b h t : Int} {k : Int → Prop} (A : AgC S E b) (ht : 0 ≤ t ∧ t < 24) (rt : rT E b D h t) (h1 : D 11 (24 * h + t) = 2 → k 1) (h0 : ¬ D 11 (24 * h + t) = 2 → k 0) : wX6_isFace S (ty b t) k := by
  unfold wX6_isFace wX6_isFace_0
  rw [A (ty b t) 4 (by unfold ty; omega) (by unfold ty; omega), rt.2.2.2.2.1]
  exact ⟨h0, h1⟩
theorem C_methodIn {S E D : St} {b h t q nm nb : Int} {k : Int → Prop} (A : AgC S E b) (hb : half01 h) (hT : okT D h t) (rf : rF E b D h t) (rb : rB E b D h t) (G : rGs E b D h nm) (B : rBs E b D h nb) (hm : nm ≤ 121) (ht1 : D 24 (24 * h + t) + D 25 (24 * h + t) ≤ nm) (ht2 : D 26 (24 * h + t) + D 27 (24 * h + t) ≤ nb) (ht3 : ∀ i, D 26 (24 * h + t) ≤ i → i < D 26 (24 * h + t) + D 27 (24 * h + t) → D 36 (7200 * h + i) < nm) (hq : 0 ≤ q ∧ q < nm) (hk : k (mI D h t q)) : wX2_methodIn S b (ty b t) (E (me b q) 7) k := by
  obtain ⟨tt, tF, tB, tM, tW⟩ := hT
  have hT' : okT D h t := ⟨tt, tF, tB, tM, tW⟩
  have a16 : S (ty b t) 16 = D 24 (24 * h + t) := (A _ _ (by unfold ty; omega) (by unfold ty; omega)).trans rf.1
  have a17 : S (ty b t) 17 = D 25 (24 * h + t) := (A _ _ (by unfold ty; omega) (by unfold ty; omega)).trans rf.2
  have a18 : S (ty b t) 18 = D 26 (24 * h + t) := (A _ _ (by unfold ty; omega) (by unfold ty; omega)).trans rb.1
  have a19 : S (ty b t) 19 = D 27 (24 * h + t) := (A _ _ (by unfold ty; omega) (by unfold ty; omega)).trans rb.2
  unfold wX2_methodIn wX2_methodIn_0
  intro x ex y ey
  rw [a16, a17, w32_eq (by omega) (by omega)] at ex
  rw [a16] at ey
  subst ex; subst ey
  unfold wX2_methodIn_16
  refine wlp_fr1 (lo := D 24 (24 * h + t)) (D 25 (24 * h + t)).toNat (fun i => ∀ j, D 24 (24 * h + t) ≤ j → j < D 24 (24 * h + t) + i → ¬ sou D h j q) ?_ ?_ (fun j j0 j1 => by omega)
  · intro P i hi hI hP
    show wX2_methodIn_16_b S b (ty b t) (E (me b q) 7) (D 24 (24 * h + t) + D 25 (24 * h + t)) (D 24 (24 * h + t) + i) (fun b0 => P b0) k
    unfold wX2_methodIn_16_b
    refine ⟨fun c => by omega, fun _ => ⟨by omega, fun z ez => ?_⟩⟩
    have e7 : S z 7 = E (me b (D 24 (24 * h + t) + i)) 7 := by rw [ez]; exact A _ _ (by omega) (by omega)
    have g := G (D 24 (24 * h + t) + i) q (by omega) (by omega) hq.1 hq.2
    rw [e7]
    refine ⟨fun c w ew => ?_, fun c => ?_⟩
    · rw [ew, w32_eq (by omega) (by omega)]
      refine hP (fun j j0 j1 => ?_)
      by_cases e : j = D 24 (24 * h + t) + i
      · rw [e]; exact fun z => c (g.mpr z)
      · exact hI j j0 (by omega)
    · have : D 24 (24 * h + t) + i = mI D h t q := mI_eq hT' (Or.inl ⟨by omega, by omega, g.mp c, hI⟩)
      rw [this]; exact hk
  · intro P hI
    show wX2_methodIn_16_b S b (ty b t) (E (me b q) 7) (D 24 (24 * h + t) + D 25 (24 * h + t)) (D 24 (24 * h + t) + ((D 25 (24 * h + t)).toNat : Int)) (fun b0 => P b0) k
    unfold wX2_methodIn_16_b
    refine ⟨fun _ x ex y ey => ?_, fun c => by omega⟩
    rw [a18, a19, w32_eq (by omega) (by omega)] at ex
    rw [a18] at ey
    subst ex; subst ey
    have hno : ∀ y, D 24 (24 * h + t) ≤ y → y < D 24 (24 * h + t) + D 25 (24 * h + t) → ¬ sou D h y q := fun y y0 y1 => hI y y0 (by omega)
    unfold wX2_methodIn_62
    refine wlp_fr1 (lo := D 26 (24 * h + t)) (D 27 (24 * h + t)).toNat (fun i => ∀ j, D 26 (24 * h + t) ≤ j → j < D 26 (24 * h + t) + i → ¬ sou D h (D 36 (7200 * h + j)) q) ?_ ?_ (fun j j0 j1 => by omega)
    · intro P i hi hI hP
      show wX2_methodIn_62_b S b (E (me b q) 7) (D 26 (24 * h + t) + D 27 (24 * h + t)) (D 26 (24 * h + t) + i) (fun b0 => P b0) k
      unfold wX2_methodIn_62_b
      have e5 : S (b + 5) (D 26 (24 * h + t) + i) = D 36 (7200 * h + (D 26 (24 * h + t) + i)) := (A _ _ (by omega) (by omega)).trans (B _ (by omega) (by omega)).2
      have hM1 := (tW (D 26 (24 * h + t) + i) (by omega) (by omega)).1
      have hM2 := ht3 (D 26 (24 * h + t) + i) (by omega) (by omega)
      rw [e5]
      refine ⟨fun c => by omega, fun _ => ⟨by omega, by omega, fun z ez => ?_⟩⟩
      have e7 : S z 7 = E (me b (D 36 (7200 * h + (D 26 (24 * h + t) + i)))) 7 := by rw [ez]; exact A _ _ (by omega) (by omega)
      have g := G (D 36 (7200 * h + (D 26 (24 * h + t) + i))) q (by omega) (by omega) hq.1 hq.2
      rw [e7]
      refine ⟨fun c w ew => ?_, fun c => ?_⟩
      · rw [ew, w32_eq (by omega) (by omega)]
        refine hP (fun j j0 j1 => ?_)
        by_cases e : j = D 26 (24 * h + t) + i
        · rw [e]; exact fun z => c (g.mpr z)
        · exact hI j j0 (by omega)
      · rw [w32_eq (by omega) (by omega)]
        have : 1000 + (D 26 (24 * h + t) + i) = mI D h t q := by
          refine mI_eq hT' (Or.inr ⟨hno, Or.inl ?_⟩)
          have e : 1000 + (D 26 (24 * h + t) + (i : Int)) - 1000 = D 26 (24 * h + t) + i := by omega
          rw [e]
          exact ⟨by omega, by omega, g.mp c, hI⟩
        rw [this]; exact hk
    · intro P hI
      show wX2_methodIn_62_b S b (E (me b q) 7) (D 26 (24 * h + t) + D 27 (24 * h + t)) (D 26 (24 * h + t) + ((D 27 (24 * h + t)).toNat : Int)) (fun b0 => P b0) k
      unfold wX2_methodIn_62_b
      refine ⟨fun _ => ?_, fun c => by omega⟩
      have : -1 = mI D h t q := mI_eq hT' (Or.inr ⟨hno, Or.inr ⟨rfl, fun j j0 j1 => hI j j0 (by omega)⟩⟩)
      rw [this]; exact hk
/-- the court is sound, whole -/
def okZ (D : St) (h t : Int) : Prop := D 24 (24 * h + t) + D 25 (24 * h + t) ≤ D 4 h ∧ D 26 (24 * h + t) + D 27 (24 * h + t) ≤ D 5 h ∧ ∀ i, D 26 (24 * h + t) ≤ i → i < D 26 (24 * h + t) + D 27 (24 * h + t) → D 36 (7200 * h + i) < D 4 h
def okA (D : St) (h : Int) : Prop := okW D h (D 3 h) ∧ 0 ≤ D 3 h ∧ (0 ≤ D 4 h ∧ D 4 h ≤ 120) ∧ (0 ≤ D 5 h ∧ D 5 h ≤ 2880) ∧ (∀ m, 0 ≤ m → m < D 4 h → okM D h m ∧ D 28 (120 * h + m) < D 3 h ∧ D 24 (24 * h + D 28 (120 * h + m)) ≤ m ∧ m < D 24 (24 * h + D 28 (120 * h + m)) + D 25 (24 * h + D 28 (120 * h + m))) ∧ ∀ t, 0 ≤ t → t < D 3 h → okZ D h t
def rTy (E : St) (b : Int) (D : St) (h t : Int) : Prop := rT E b D h t ∧ rR E b D h t ∧ rF E b D h t ∧ rA E b D h t ∧ rS E b D h t ∧ rB E b D h t
/-- the family is the court -/
def Rel (E : St) (b : Int) (D : St) (h : Int) : Prop := (E b 1 = D 3 h ∧ E b 3 = D 4 h ∧ E b 7 = D 5 h ∧ E b 8 = D 6 h) ∧ (∀ t, 0 ≤ t → t < D 3 h → rTy E b D h t) ∧ rMs E b D h (D 4 h) ∧ rGs E b D h (D 4 h) ∧ rBs E b D h (D 5 h) ∧ rOs E b D h (D 4 h)
