/-! pure: kinds as seen, erased: the reference -/
def sVar (D : St) (h t u k : Int) : Int := if t = u then 100 + k else D 23 (2 * (24 * (24 * h + t) + u) + k)
def kSeen (D : St) (h t m k : Int) : Int := if 100 ≤ D 33 (3 * (120 * h + m) + k) then sVar D h t (D 28 (120 * h + m)) (D 33 (3 * (120 * h + m) + k) - 100) else D 33 (3 * (120 * h + m) + k)
def bnd (D : St) (h t c : Int) : Int := if 100 ≤ c then D 15 (2 * (24 * h + t) + c - 100) else c
def kEr (D : St) (h m k : Int) : Int := bnd D h (D 28 (120 * h + m)) (D 33 (3 * (120 * h + m) + k))
theorem R_seenVar {S D : St} {t u q h : Int} {k : Int → Prop} (A : AgD S D) (hS : S 0 10 = h) (hh : half01 h) (ht : 0 ≤ t ∧ t < 24) (hu : 0 ≤ u ∧ u < 24) (hq : 0 ≤ q ∧ q ≤ 1) (hk : k (sVar D h t u q)) : wX8_seenVar S t u q k := by
  unfold wX8_seenVar wX8_seenVar_0
  have hb : 0 ≤ h ∧ h ≤ 1 := by unfold half01 at hh; omega
  unfold sVar at hk
  refine ⟨fun c => R_t hS hh ht ?_, fun c => ?_⟩
  · rw [if_neg c] at hk
    rw [w32_eq (x := 24 * (24 * h + t)) (by omega) (by omega), w32_eq (x := 24 * (24 * h + t) + u) (by omega) (by omega), w32_eq (x := 2 * (24 * (24 * h + t) + u)) (by omega) (by omega), w32_eq (by omega) (by omega), A 23 _ (by decide) (by decide)]
    exact ⟨by omega, hk⟩
  · rw [if_pos c] at hk
    rw [w32_eq (by omega) (by omega)]
    exact hk
theorem R_kindSeen {S D : St} {t m q h : Int} {k : Int → Prop} (A : AgD S D) (hS : S 0 10 = h) (hh : half01 h) (ht : 0 ≤ t ∧ t < 24) (hm : 0 ≤ m ∧ m < 120) (hq : 0 ≤ q ∧ q ≤ 2) (hc : D 33 (3 * (120 * h + m) + q) ≤ 101) (ho : 0 ≤ D 28 (120 * h + m) ∧ D 28 (120 * h + m) < 24) (hk : k (kSeen D h t m q)) : wX8_kindSeen S t m q k := by
  unfold wX8_kindSeen wX8_kindSeen_0
  have hb : 0 ≤ h ∧ h ≤ 1 := by unfold half01 at hh; omega
  unfold kSeen at hk
  refine R_m hS hh (by omega) ?_
  rw [w32_eq (x := 3 * (120 * h + m)) (by omega) (by omega), w32_eq (by omega) (by omega)]
  refine ⟨by omega, fun x ex => ?_⟩
  rw [A 33 _ (by decide) (by decide)] at ex
  rw [← ex] at hk hc
  refine ⟨fun c => ?_, fun c => R_m hS hh (by omega) ⟨by omega, ?_⟩⟩
  · rwa [if_neg (by omega)] at hk
  · rw [if_pos c] at hk
    rw [A 28 _ (by decide) (by decide), w32_eq (by omega) (by omega)]
    exact R_seenVar A hS hh ht ho (by omega) hk
theorem R_boundOf {S D : St} {t c h : Int} {k : Int → Prop} (A : AgD S D) (hS : S 0 10 = h) (hh : half01 h) (ht : 0 ≤ t ∧ t < 24) (hc : c ≤ 101) (hk : k (bnd D h t c)) : wX8_boundOf S t c k := by
  unfold wX8_boundOf wX8_boundOf_0
  have hb : 0 ≤ h ∧ h ≤ 1 := by unfold half01 at hh; omega
  unfold bnd at hk
  refine ⟨fun d => ?_, fun d => R_t hS hh ht ?_⟩
  · rwa [if_neg (by omega)] at hk
  · rw [if_pos d] at hk
    rw [w32_eq (x := 2 * (24 * h + t)) (by omega) (by omega), w32_eq (x := 2 * (24 * h + t) + c) (by omega) (by omega), w32_eq (by omega) (by omega), A 15 _ (by decide) (by decide)]
    exact ⟨by omega, hk⟩
theorem R_kindErased {S D : St} {m q h : Int} {k : Int → Prop} (A : AgD S D) (hS : S 0 10 = h) (hh : half01 h) (hm : 0 ≤ m ∧ m < 120) (hq : 0 ≤ q ∧ q ≤ 2) (hc : D 33 (3 * (120 * h + m) + q) ≤ 101) (ho : 0 ≤ D 28 (120 * h + m) ∧ D 28 (120 * h + m) < 24) (hk : k (kEr D h m q)) : wX8_kindErased S m q k := by
  unfold wX8_kindErased wX8_kindErased_0
  have hb : 0 ≤ h ∧ h ≤ 1 := by unfold half01 at hh; omega
  unfold kEr at hk
  refine R_m hS hh (by omega) ⟨by omega, R_m hS hh (by omega) ?_⟩
  rw [w32_eq (x := 3 * (120 * h + m)) (by omega) (by omega), w32_eq (by omega) (by omega), A 28 _ (by decide) (by decide), A 33 _ (by decide) (by decide)]
  exact ⟨by omega, R_boundOf A hS hh ho hc hk⟩
