/-! pure: the METHOD of a type that is sought: the reference -/
def okT (D : St) (h t : Int) : Prop := (0 ≤ t ∧ t < 24) ∧ (0 ≤ D 24 (24 * h + t) ∧ 0 ≤ D 25 (24 * h + t) ∧ D 24 (24 * h + t) + D 25 (24 * h + t) ≤ 120) ∧ (0 ≤ D 26 (24 * h + t) ∧ 0 ≤ D 27 (24 * h + t) ∧ D 26 (24 * h + t) + D 27 (24 * h + t) ≤ 2880) ∧ (∀ x, D 24 (24 * h + t) ≤ x → x < D 24 (24 * h + t) + D 25 (24 * h + t) → okM D h x) ∧ ∀ b, D 26 (24 * h + t) ≤ b → b < D 26 (24 * h + t) + D 27 (24 * h + t) → okM D h (D 36 (7200 * h + b))
/-- r is the METHOD of t with what q gives: a member, 1000 and a BRIDGE, or -1 -/
def mIn (D : St) (h t q r : Int) : Prop :=
  (D 24 (24 * h + t) ≤ r ∧ r < D 24 (24 * h + t) + D 25 (24 * h + t) ∧ sou D h r q ∧ ∀ y, D 24 (24 * h + t) ≤ y → y < r → ¬ sou D h y q) ∨
  ((∀ y, D 24 (24 * h + t) ≤ y → y < D 24 (24 * h + t) + D 25 (24 * h + t) → ¬ sou D h y q) ∧
    ((D 26 (24 * h + t) ≤ r - 1000 ∧ r - 1000 < D 26 (24 * h + t) + D 27 (24 * h + t) ∧ sou D h (D 36 (7200 * h + (r - 1000))) q ∧ ∀ b, D 26 (24 * h + t) ≤ b → b < r - 1000 → ¬ sou D h (D 36 (7200 * h + b)) q) ∨
     (r = -1 ∧ ∀ b, D 26 (24 * h + t) ≤ b → b < D 26 (24 * h + t) + D 27 (24 * h + t) → ¬ sou D h (D 36 (7200 * h + b)) q)))
theorem R_methodIn_54 {S D : St} {t q h : Int} {k : Int → Prop} (A : AgD S D) (hS : S 0 10 = h) (hh : half01 h) (hT : okT D h t) (hq : okM D h q) (hno : ∀ y, D 24 (24 * h + t) ≤ y → y < D 24 (24 * h + t) + D 25 (24 * h + t) → ¬ sou D h y q) (hk : ∀ r, mIn D h t q r → k r) : wX8_methodIn_54 S q (24 * h + t) 0 k := by
  have hb01 : 0 ≤ h ∧ h ≤ 1 := by unfold half01 at hh; omega
  obtain ⟨ht, hF, hB, hM, hBr⟩ := hT
  unfold wX8_methodIn_54
  refine wlp_of (fun y => (0 ≤ y ∧ y ≤ D 27 (24 * h + t)) ∧ ∀ b, D 26 (24 * h + t) ≤ b → b < D 26 (24 * h + t) + y → ¬ sou D h (D 36 (7200 * h + b)) q) (fun y => (D 27 (24 * h + t) - y).toNat) ?_ ?_
  · intro P y I hP
    obtain ⟨⟨y0, y1⟩, hI⟩ := I
    show wX8_methodIn_54_b S q (24 * h + t) y (fun b0 => P b0) k
    unfold wX8_methodIn_54_b
    rw [A 27 _ (by decide) (by decide), A 26 _ (by decide) (by decide), hS]
    refine ⟨by omega, fun c => ?_, fun c => ⟨by omega, fun z ez => ?_⟩⟩
    · have e : y = D 27 (24 * h + t) := by omega
      subst e
      exact hk _ (Or.inr ⟨hno, Or.inr ⟨rfl, hI⟩⟩)
    · rw [w32_eq (by omega) (by omega)] at ez
      rw [w32_eq (x := 7200 * h) (by omega) (by omega), w32_eq (x := 7200 * h + z) (by omega) (by omega), A 36 _ (by decide) (by decide), w32_eq (x := 1000 + z) (by omega) (by omega)]
      refine ⟨by omega, R_isSought A hS hh (hBr z (by omega) (by omega)) hq (fun g => ⟨fun d => absurd d (by decide), fun _ => ?_⟩) (fun g => ⟨fun _ w ew => ?_, fun d => absurd rfl d⟩)⟩
      · refine hk _ (Or.inr ⟨hno, Or.inl ?_⟩)
        have e : 1000 + z - 1000 = z := by omega
        rw [e]
        exact ⟨by omega, by omega, g, fun b b0 b1 => hI b b0 (by omega)⟩
      · rw [w32_eq (by omega) (by omega)] at ew
        subst ew
        refine hP (y + 1) ⟨⟨by omega, by omega⟩, fun b b0 b1 => ?_⟩ (by omega)
        by_cases hbz : b = z
        · subst hbz; exact g
        · exact hI b b0 (by omega)
  · exact ⟨⟨Int.le_refl 0, hB.2.1⟩, fun b b0 b1 => by omega⟩
theorem R_methodIn {S D : St} {t q h : Int} {k : Int → Prop} (A : AgD S D) (hS : S 0 10 = h) (hh : half01 h) (hT : okT D h t) (hq : okM D h q) (hk : ∀ r, mIn D h t q r → k r) : wX8_methodIn S t q k := by
  have hb01 : 0 ≤ h ∧ h ≤ 1 := by unfold half01 at hh; omega
  have hT' := hT
  obtain ⟨ht, hF, hB, hM, hBr⟩ := hT
  unfold wX8_methodIn wX8_methodIn_0
  refine R_t hS hh ht ⟨by omega, fun f ef => ?_⟩
  rw [A 24 _ (by decide) (by decide)] at ef
  unfold wX8_methodIn_14
  refine wlp_of (fun y => (D 24 (24 * h + t) ≤ y ∧ y ≤ D 24 (24 * h + t) + D 25 (24 * h + t)) ∧ ∀ x, D 24 (24 * h + t) ≤ x → x < y → ¬ sou D h x q) (fun y => (D 24 (24 * h + t) + D 25 (24 * h + t) - y).toNat) ?_ ?_
  · intro P y I hP
    obtain ⟨⟨y0, y1⟩, hI⟩ := I
    show wX8_methodIn_14_b S q (24 * h + t) y (fun b0 => P b0) k
    unfold wX8_methodIn_14_b
    rw [A 24 _ (by decide) (by decide), A 25 _ (by decide) (by decide), w32_eq (by omega) (by omega)]
    refine ⟨by omega, by omega, fun c => ?_, fun c => ?_⟩
    · exact R_methodIn_54 A hS hh hT' hq (fun x x0 x1 => hI x x0 (by omega)) hk
    · refine R_isSought A hS hh (hM y (by omega) (by omega)) hq (fun g => ⟨fun d => absurd d (by decide), fun _ => ?_⟩) (fun g => ⟨fun _ w ew => ?_, fun d => absurd rfl d⟩)
      · exact hk _ (Or.inl ⟨y0, c, g, hI⟩)
      · rw [w32_eq (by omega) (by omega)] at ew
        subst ew
        refine hP (y + 1) ⟨⟨by omega, by omega⟩, fun x x0 x1 => ?_⟩ (by omega)
        by_cases hxy : x = y
        · subst hxy; exact g
        · exact hI x x0 (by omega)
  · exact ⟨⟨by omega, by omega⟩, fun x x0 x1 => by omega⟩
