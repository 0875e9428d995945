/-! pure: members alike, sought: the reference -/
/-- a member's row is sound -/
def okM (D : St) (h m : Int) : Prop := (0 ≤ m ∧ m < 120) ∧ (0 ≤ D 28 (120 * h + m) ∧ D 28 (120 * h + m) < 24) ∧ (0 ≤ D 32 (120 * h + m) ∧ D 32 (120 * h + m) ≤ 2) ∧ ∀ q, 0 ≤ q → q ≤ 2 → D 33 (3 * (120 * h + m) + q) ≤ 101
def erL (D : St) (h a b : Int) : Prop := D 29 (120 * h + a) = D 29 (120 * h + b) ∧ D 32 (120 * h + a) = D 32 (120 * h + b) ∧ ∀ q, 0 ≤ q → q < D 32 (120 * h + a) → kEr D h a q = kEr D h b q
def seL (D : St) (h t a b : Int) : Prop := D 29 (120 * h + a) = D 29 (120 * h + b) ∧ D 32 (120 * h + a) = D 32 (120 * h + b) ∧ ∀ q, 0 ≤ q → q < D 32 (120 * h + a) → kSeen D h t a q = kSeen D h t b q
def sou (D : St) (h a b : Int) : Prop := erL D h a b ∧ kEr D h a 2 = kEr D h b 2
theorem R_isErasedLike_54 {S D : St} {a b h : Int} {k : Int → Prop} (A : AgD S D) (hS : S 0 10 = h) (hh : half01 h) (ha : okM D h a) (hb : okM D h b) (h1 : (∀ q, 0 ≤ q → q < D 32 (120 * h + a) → kEr D h a q = kEr D h b q) → k 1) (h0 : ¬ (∀ q, 0 ≤ q → q < D 32 (120 * h + a) → kEr D h a q = kEr D h b q) → k 0) : wX8_isErasedLike_54 S a b 1 0 k := by
  have hb01 : 0 ≤ h ∧ h ≤ 1 := by unfold half01 at hh; omega
  unfold wX8_isErasedLike_54
  refine wlp_of (fun s => (0 ≤ s.2 ∧ s.2 ≤ D 32 (120 * h + a)) ∧ ((s.1 = 1 ∧ ∀ q, 0 ≤ q → q < s.2 → kEr D h a q = kEr D h b q) ∨ (s.1 = 0 ∧ ¬ ∀ q, 0 ≤ q → q < s.2 → kEr D h a q = kEr D h b q))) (fun s => (2 - s.2).toNat) ?_ ?_
  · intro P s I hP
    obtain ⟨x, y⟩ := s
    obtain ⟨⟨y0, y1⟩, hI⟩ := I
    dsimp only at y0 y1 hI hP
    show wX8_isErasedLike_54_b S a b x y (fun b0 b1 => P (b0, b1)) k
    unfold wX8_isErasedLike_54_b
    have hk2 := ha.2.2.1
    refine R_m hS hh (by have := ha.1; omega) ⟨by have := ha.1; omega, ?_⟩
    rw [A 32 _ (by decide) (by decide)]
    refine ⟨fun c => ?_, fun c => ⟨fun d z ez => ?_, fun d => ?_⟩⟩
    · have e : y = D 32 (120 * h + a) := by omega
      subst e
      rcases hI with ⟨e1, hq⟩ | ⟨e1, hq⟩
      · subst e1; exact ⟨Or.inr rfl, h1 hq⟩
      · subst e1; exact ⟨Or.inl rfl, h0 hq⟩
    · rw [w32_eq (by omega) (by omega)] at ez
      subst ez
      rcases hI with ⟨e1, hq⟩ | ⟨e1, hq⟩
      · omega
      · exact hP (0, y + 1) ⟨⟨by omega, by omega⟩, Or.inr ⟨rfl, fun g => hq (fun q q0 q1 => g q q0 (by omega))⟩⟩ (by dsimp only; omega)
    · rcases hI with ⟨e1, hq⟩ | ⟨e1, hq⟩
      · refine R_kindErased A hS hh ha.1 (by omega) (ha.2.2.2 y (by omega) (by omega)) ha.2.1 ?_
        refine R_kindErased A hS hh hb.1 (by omega) (hb.2.2.2 y (by omega) (by omega)) hb.2.1 ?_
        refine ⟨fun d2 z ez => ?_, fun d2 z ez => ?_⟩
        · rw [w32_eq (by omega) (by omega)] at ez
          subst ez
          exact hP (0, y + 1) ⟨⟨by omega, by omega⟩, Or.inr ⟨rfl, fun g => d2 (g y y0 (by omega))⟩⟩ (by dsimp only; omega)
        · rw [w32_eq (by omega) (by omega)] at ez
          subst ez
          refine hP (1, y + 1) ⟨⟨by omega, by omega⟩, Or.inl ⟨rfl, fun q q0 q1 => ?_⟩⟩ (by dsimp only; omega)
          by_cases hqy : q = y
          · subst hqy; exact d2
          · exact hq q q0 (by omega)
      · exact absurd e1 d
  · refine ⟨⟨Int.le_refl 0, ha.2.2.1.1⟩, Or.inl ⟨rfl, fun q q0 q1 => ?_⟩⟩
    dsimp only at q1
    omega
theorem R_isLike_55 {S D : St} {t a b h : Int} {k : Int → Prop} (A : AgD S D) (hS : S 0 10 = h) (hh : half01 h) (ht : 0 ≤ t ∧ t < 24) (ha : okM D h a) (hb : okM D h b) (h1 : (∀ q, 0 ≤ q → q < D 32 (120 * h + a) → kSeen D h t a q = kSeen D h t b q) → k 1) (h0 : ¬ (∀ q, 0 ≤ q → q < D 32 (120 * h + a) → kSeen D h t a q = kSeen D h t b q) → k 0) : wX8_isLike_55 S t a b 1 0 k := by
  have hb01 : 0 ≤ h ∧ h ≤ 1 := by unfold half01 at hh; omega
  unfold wX8_isLike_55
  refine wlp_of (fun s => (0 ≤ s.2 ∧ s.2 ≤ D 32 (120 * h + a)) ∧ ((s.1 = 1 ∧ ∀ q, 0 ≤ q → q < s.2 → kSeen D h t a q = kSeen D h t b q) ∨ (s.1 = 0 ∧ ¬ ∀ q, 0 ≤ q → q < s.2 → kSeen D h t a q = kSeen D h t b q))) (fun s => (2 - s.2).toNat) ?_ ?_
  · intro P s I hP
    obtain ⟨x, y⟩ := s
    obtain ⟨⟨y0, y1⟩, hI⟩ := I
    dsimp only at y0 y1 hI hP
    show wX8_isLike_55_b S t a b x y (fun b0 b1 => P (b0, b1)) k
    unfold wX8_isLike_55_b
    have hk2 := ha.2.2.1
    refine R_m hS hh (by have := ha.1; omega) ⟨by have := ha.1; omega, ?_⟩
    rw [A 32 _ (by decide) (by decide)]
    refine ⟨fun c => ?_, fun c => ⟨fun d z ez => ?_, fun d => ?_⟩⟩
    · have e : y = D 32 (120 * h + a) := by omega
      subst e
      rcases hI with ⟨e1, hq⟩ | ⟨e1, hq⟩
      · subst e1; exact ⟨Or.inr rfl, h1 hq⟩
      · subst e1; exact ⟨Or.inl rfl, h0 hq⟩
    · rw [w32_eq (by omega) (by omega)] at ez
      subst ez
      rcases hI with ⟨e1, hq⟩ | ⟨e1, hq⟩
      · omega
      · exact hP (0, y + 1) ⟨⟨by omega, by omega⟩, Or.inr ⟨rfl, fun g => hq (fun q q0 q1 => g q q0 (by omega))⟩⟩ (by dsimp only; omega)
    · rcases hI with ⟨e1, hq⟩ | ⟨e1, hq⟩
      · refine R_kindSeen A hS hh ht ha.1 (by omega) (ha.2.2.2 y (by omega) (by omega)) ha.2.1 ?_
        refine R_kindSeen A hS hh ht hb.1 (by omega) (hb.2.2.2 y (by omega) (by omega)) hb.2.1 ?_
        refine ⟨fun d2 z ez => ?_, fun d2 z ez => ?_⟩
        · rw [w32_eq (by omega) (by omega)] at ez
          subst ez
          exact hP (0, y + 1) ⟨⟨by omega, by omega⟩, Or.inr ⟨rfl, fun g => d2 (g y y0 (by omega))⟩⟩ (by dsimp only; omega)
        · rw [w32_eq (by omega) (by omega)] at ez
          subst ez
          refine hP (1, y + 1) ⟨⟨by omega, by omega⟩, Or.inl ⟨rfl, fun q q0 q1 => ?_⟩⟩ (by dsimp only; omega)
          by_cases hqy : q = y
          · subst hqy; exact d2
          · exact hq q q0 (by omega)
      · exact absurd e1 d
  · refine ⟨⟨Int.le_refl 0, ha.2.2.1.1⟩, Or.inl ⟨rfl, fun q q0 q1 => ?_⟩⟩
    dsimp only at q1
    omega
theorem R_isErasedLike {S D : St} {a b h : Int} {k : Int → Prop} (A : AgD S D) (hS : S 0 10 = h) (hh : half01 h) (ha : okM D h a) (hb : okM D h b) (h1 : erL D h a b → k 1) (h0 : ¬ erL D h a b → k 0) : wX8_isErasedLike S a b k := by
  have hb01 : 0 ≤ h ∧ h ≤ 1 := by unfold half01 at hh; omega
  have ha1 := ha.1
  have hb1 := hb.1
  unfold wX8_isErasedLike wX8_isErasedLike_0
  refine R_m hS hh (by omega) ⟨by omega, R_m hS hh (by omega) ⟨by omega, ?_⟩⟩
  rw [A 29 _ (by decide) (by decide), A 29 _ (by decide) (by decide)]
  refine ⟨fun c => h0 (fun g => c g.1), fun c => R_m hS hh (by omega) ⟨by omega, R_m hS hh (by omega) ⟨by omega, ?_⟩⟩⟩
  rw [A 32 _ (by decide) (by decide), A 32 _ (by decide) (by decide)]
  refine ⟨fun d => ?_, fun d => h0 (fun g => d g.2.1)⟩
  exact R_isErasedLike_54 A hS hh ha hb (fun g => h1 ⟨c, d, g⟩) (fun g => h0 (fun f => g f.2.2))
theorem R_isLike {S D : St} {t a b h : Int} {k : Int → Prop} (A : AgD S D) (hS : S 0 10 = h) (hh : half01 h) (ht : 0 ≤ t ∧ t < 24) (ha : okM D h a) (hb : okM D h b) (h1 : seL D h t a b → k 1) (h0 : ¬ seL D h t a b → k 0) : wX8_isLike S t a b k := by
  have hb01 : 0 ≤ h ∧ h ≤ 1 := by unfold half01 at hh; omega
  have ha1 := ha.1
  have hb1 := hb.1
  unfold wX8_isLike wX8_isLike_0
  refine R_m hS hh (by omega) ⟨by omega, R_m hS hh (by omega) ⟨by omega, ?_⟩⟩
  rw [A 29 _ (by decide) (by decide), A 29 _ (by decide) (by decide)]
  refine ⟨fun c => h0 (fun g => c g.1), fun c => R_m hS hh (by omega) ⟨by omega, R_m hS hh (by omega) ⟨by omega, ?_⟩⟩⟩
  rw [A 32 _ (by decide) (by decide), A 32 _ (by decide) (by decide)]
  refine ⟨fun d => ?_, fun d => h0 (fun g => d g.2.1)⟩
  exact R_isLike_55 A hS hh ht ha hb (fun g => h1 ⟨c, d, g⟩) (fun g => h0 (fun f => g f.2.2))
theorem R_isSought {S D : St} {a b h : Int} {k : Int → Prop} (A : AgD S D) (hS : S 0 10 = h) (hh : half01 h) (ha : okM D h a) (hb : okM D h b) (h1 : sou D h a b → k 1) (h0 : ¬ sou D h a b → k 0) : wX8_isSought S a b k := by
  unfold wX8_isSought wX8_isSought_0
  refine R_isErasedLike A hS hh ha hb (fun g => ⟨fun c => absurd c (by decide), fun _ => ?_⟩) (fun g => ⟨fun _ => h0 (fun f => g f.1), fun c => absurd rfl c⟩)
  refine R_kindErased A hS hh ha.1 (by decide) (ha.2.2.2 2 (by decide) (by decide)) ha.2.1 ?_
  refine R_kindErased A hS hh hb.1 (by decide) (hb.2.2.2 2 (by decide) (by decide)) hb.2.1 ?_
  exact ⟨fun c => h0 (fun f => c f.2), fun c => h1 ⟨g, c⟩⟩
