/-! pure: the court as the reference holds it at a half; its small methods -/
/-- the reference's court (cells 3 to 36) is D -/
def AgD (S D : St) : Prop := ∀ a j, 3 ≤ a → a ≤ 36 → S a j = D a j
theorem AgD.up0 {S D : St} {j v : Int} (h : AgD S D) : AgD (up S 0 j v) D := fun a i h1 h2 => by rw [up_n S (by omega)]; exact h a i h1 h2
def half01 (h : Int) : Prop := h = 0 ∨ h = 1
theorem R_t {S : St} {x h : Int} {k : Int → Prop} (hS : S 0 10 = h) (hh : half01 h) (hx : 0 ≤ x ∧ x < 24) (hk : k (24 * h + x)) : wX8_t S x k := by
  unfold wX8_t wX8_t_0
  rw [hS]
  rcases hh with rfl | rfl
  · rw [w32_eq (x := 24 * 0) (by omega) (by omega), w32_eq (by omega) (by omega)]; exact hk
  · rw [w32_eq (x := 24 * 1) (by omega) (by omega), w32_eq (by omega) (by omega)]; exact hk
theorem R_m {S : St} {x h : Int} {k : Int → Prop} (hS : S 0 10 = h) (hh : half01 h) (hx : 0 ≤ x ∧ x < 1000) (hk : k (120 * h + x)) : wX8_m S x k := by
  unfold wX8_m wX8_m_0
  rw [hS]
  rcases hh with rfl | rfl
  · rw [w32_eq (x := 120 * 0) (by omega) (by omega), w32_eq (by omega) (by omega)]; exact hk
  · rw [w32_eq (x := 120 * 1) (by omega) (by omega), w32_eq (by omega) (by omega)]; exact hk
theorem R_isType {S : St} {x h n : Int} {k : Int → St → Prop} (hS : S 0 11 = h) (hh : half01 h) (hn : S 3 h = n) (h0 : 0 ≤ n ∧ n ≤ 24) (hk : k (if 0 ≤ x ∧ x < n then 1 else 0) (up S 0 10 h)) : wX8_isType S x k := by
  unfold wX8_isType wX8_isType_0
  intro S2 e2
  rw [hS] at e2
  have e3 : S2 0 10 = h := by rw [e2, up_s]
  have e4 : S2 3 h = n := by rw [e2, up_n S (by omega)]; exact hn
  rw [e3, e4]
  refine ⟨by unfold half01 at hh; omega, R_in _ ?_⟩
  rw [w32_eq (by omega) (by omega), e2]
  by_cases c : 0 ≤ x ∧ x < n
  · rw [if_pos c] at hk
    rw [if_pos (by omega)]
    exact ⟨Or.inr rfl, hk⟩
  · rw [if_neg c] at hk
    rw [if_neg (by omega)]
    exact ⟨Or.inl rfl, hk⟩
theorem R_isMember {S : St} {x h n : Int} {k : Int → St → Prop} (hS : S 0 11 = h) (hh : half01 h) (hn : S 4 h = n) (h0 : 0 ≤ n ∧ n ≤ 120) (hk : k (if 0 ≤ x ∧ x < n then 1 else 0) (up S 0 10 h)) : wX8_isMember S x k := by
  unfold wX8_isMember wX8_isMember_0
  intro S2 e2
  rw [hS] at e2
  have e3 : S2 0 10 = h := by rw [e2, up_s]
  have e4 : S2 4 h = n := by rw [e2, up_n S (by omega)]; exact hn
  rw [e3, e4]
  refine ⟨by unfold half01 at hh; omega, R_in _ ?_⟩
  rw [w32_eq (by omega) (by omega), e2]
  by_cases c : 0 ≤ x ∧ x < n
  · rw [if_pos c] at hk
    rw [if_pos (by omega)]
    exact ⟨Or.inr rfl, hk⟩
  · rw [if_neg c] at hk
    rw [if_neg (by omega)]
    exact ⟨Or.inl rfl, hk⟩
theorem R_isUnder {S D : St} {t u h : Int} {k : Int → Prop} (A : AgD S D) (hS : S 0 10 = h) (hh : half01 h) (ht : 0 ≤ t ∧ t < 24) (hu : 0 ≤ u ∧ u < 24) (hk : k (if t = u ∨ ¬ D 22 (24 * (24 * h + t) + u) = 0 then 1 else 0)) : wX8_isUnder S t u k := by
  unfold wX8_isUnder wX8_isUnder_0
  have hb : 0 ≤ h ∧ h ≤ 1 := by unfold half01 at hh; omega
  refine ⟨fun c => ?_, fun c => R_t hS hh ht ?_⟩
  · rwa [if_pos (Or.inl c)] at hk
  · rw [w32_eq (x := 24 * (24 * h + t)) (by omega) (by omega), w32_eq (by omega) (by omega), A 22 _ (by decide) (by decide)]
    refine ⟨by omega, fun d => ?_, fun d => ?_⟩
    · rwa [if_neg (by simp [c, d])] at hk
    · rwa [if_pos (Or.inr d)] at hk
theorem R_isSamePackage {S D : St} {t u h : Int} {k : Int → Prop} (A : AgD S D) (hS : S 0 10 = h) (hh : half01 h) (ht : 0 ≤ t ∧ t < 24) (hu : 0 ≤ u ∧ u < 24) (hk : k (if D 9 (24 * h + t) = D 9 (24 * h + u) ∧ D 10 (24 * h + t) = D 10 (24 * h + u) then 1 else 0)) : wX8_isSamePackage S t u k := by
  unfold wX8_isSamePackage wX8_isSamePackage_0
  have hb : 0 ≤ h ∧ h ≤ 1 := by unfold half01 at hh; omega
  refine R_t hS hh ht ⟨by omega, R_t hS hh hu ⟨by omega, ?_⟩⟩
  rw [A 9 _ (by decide) (by decide), A 9 _ (by decide) (by decide)]
  refine ⟨fun c => ?_, fun c => R_t hS hh ht ⟨by omega, R_t hS hh hu ⟨by omega, ?_⟩⟩⟩
  · rwa [if_neg (fun d => c d.1)] at hk
  · rw [A 10 _ (by decide) (by decide), A 10 _ (by decide) (by decide)]
    refine ⟨fun d => ?_, fun d => ?_⟩
    · rwa [if_neg (fun e => d e.2)] at hk
    · rwa [if_pos ⟨c, d⟩] at hk
