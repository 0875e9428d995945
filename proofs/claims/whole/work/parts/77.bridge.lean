/-! pure: close: BRIDGES: both -/
def cov (D : St) (h M0 M1 : Int) (L : List (Int × Int)) (n : Int) : Prop := (∃ x, M0 ≤ x ∧ x < M1 ∧ sou D h x n) ∨ ∃ p, p ∈ L ∧ sou D h p.2 n
noncomputable def bst (D : St) (h M0 M1 : Int) (L : List (Int × Int)) (m n : Int) : List (Int × Int) := @ite _ (ovr D h m n ∧ ¬ cov D h M0 M1 L n) (Classical.propDecidable _) (L ++ [(m, n)]) L
noncomputable def b3 (D : St) (h M0 M1 m s : Int) (L : List (Int × Int)) : Nat → List (Int × Int)
  | 0 => L
  | k + 1 => bst D h M0 M1 (b3 D h M0 M1 m s L k) m (D 24 (24 * h + s) + k)
noncomputable def b2 (D : St) (h t M0 M1 m : Int) (L : List (Int × Int)) : Nat → List (Int × Int)
  | 0 => L
  | i + 1 => b3 D h M0 M1 m (ab D h t i) (b2 D h t M0 M1 m L i) (D 25 (24 * h + ab D h t i)).toNat
noncomputable def b1 (D : St) (h t M0 M1 : Int) : Nat → List (Int × Int)
  | 0 => []
  | j + 1 => @ite _ (bare D h (M0 + j) ∧ ¬ D 31 (120 * h + (M0 + j)) = 2) (Classical.propDecidable _) (b2 D h t M0 M1 (M0 + j) (b1 D h t M0 M1 j) (D 20 (24 * h + t)).toNat) (b1 D h t M0 M1 j)
/-- a row of BRIDGES is sound -/
def okL (D : St) (h M0 M1 : Int) (L : List (Int × Int)) : Prop := (∀ p, p ∈ L → (M0 ≤ p.1 ∧ p.1 < M1) ∧ (0 ≤ p.2 ∧ p.2 < M0) ∧ bare D h p.1 ∧ ¬ D 31 (120 * h + p.1) = 2 ∧ ∀ x, M0 ≤ x → x < M1 → ¬ sou D h x p.2) ∧ ∀ i j : Nat, i < j → j < L.length → ¬ sou D h (L.getD i (0, 0)).2 (L.getD j (0, 0)).2
theorem sou_refl (D : St) (h a : Int) : sou D h a a := ⟨⟨rfl, rfl, fun _ _ _ => rfl⟩, rfl⟩
theorem okL_len {D : St} {h M0 M1 : Int} {L : List (Int × Int)} (hM : 0 ≤ M0 ∧ M0 ≤ 120) (O : okL D h M0 M1 L) : L.length ≤ 120 := by
  have nd : ∀ n : Nat, n ≤ L.length → ((L.take n).map (fun p => p.2)).Nodup := by
    intro n
    induction n with
    | zero => intro _; simp
    | succ n ih =>
      intro hn
      have hn' : n < L.length := by omega
      rw [List.take_add_one, List.getElem?_eq_getElem hn']
      simp only [Option.toList_some, List.map_append, List.map_cons, List.map_nil]
      rw [List.nodup_append]
      refine ⟨ih (by omega), by simp, fun a ha c hc => ?_⟩
      rw [List.mem_singleton.mp hc]
      obtain ⟨p, hp, ep⟩ := List.mem_map.mp ha
      obtain ⟨i, hi, ei⟩ := List.getElem_of_mem hp
      rw [List.length_take] at hi
      rw [List.getElem_take] at ei
      intro e
      refine O.2 i n (by omega) hn' ?_
      have g1 : L.getD i (0, 0) = p := by rw [← ei]; simp [show i < L.length by omega]
      have g2 : L.getD n (0, 0) = L[n] := by simp [hn']
      rw [g1, g2, ep, e]
      exact sou_refl _ _ _
  have h1 := nd L.length (Nat.le_refl _)
  rw [List.take_length] at h1
  have h2 := nodup_len M0.toNat _ h1 (fun x hx => by
    obtain ⟨p, hp, ep⟩ := List.mem_map.mp hx
    have := (O.1 p hp).2.1
    omega)
  rw [List.length_map] at h2
  omega
theorem okL_bst {D : St} {h M0 M1 : Int} {L : List (Int × Int)} {m n : Int} (O : okL D h M0 M1 L) (hm : M0 ≤ m ∧ m < M1) (hn : 0 ≤ n ∧ n < M0) (bm : bare D h m) (fm : ¬ D 31 (120 * h + m) = 2) : okL D h M0 M1 (bst D h M0 M1 L m n) := by
  unfold bst
  split
  · rename_i c
    refine ⟨fun p hp => ?_, fun i j hij hj => ?_⟩
    · rcases List.mem_append.mp hp with g | g
      · exact O.1 p g
      · rw [List.mem_singleton.mp g]
        exact ⟨hm, hn, bm, fm, fun x x0 x1 z => c.2 (Or.inl ⟨x, x0, x1, z⟩)⟩
    · rw [List.length_append, List.length_singleton] at hj
      have e1 : ∀ i : Nat, i < L.length → (L ++ [(m, n)]).getD i (0, 0) = L.getD i (0, 0) := fun i hi => by simp [List.getElem?_append_left hi]
      by_cases e : j = L.length
      · subst e
        rw [e1 i hij]
        have e2 : (L ++ [(m, n)]).getD L.length (0, 0) = (m, n) := by simp
        rw [e2]
        intro z
        have hmem : L.getD i (0, 0) ∈ L := by
          rw [List.getD_eq_getElem?_getD, List.getElem?_eq_getElem hij]
          exact List.getElem_mem hij
        exact c.2 (Or.inr ⟨_, hmem, z⟩)
      · rw [e1 i (by omega), e1 j (by omega)]
        exact O.2 i j hij (by omega)
  · exact O
/-- what is needed of the court to make BRIDGES -/
def BX (D : St) (h t M0 M1 : Int) : Prop := half01 h ∧ (0 ≤ t ∧ t < 24) ∧ (0 ≤ M0 ∧ M0 ≤ M1 ∧ M1 ≤ 120) ∧ (D 24 (24 * h + t) = M0 ∧ D 24 (24 * h + t) + D 25 (24 * h + t) = M1) ∧ (∀ m, 0 ≤ m → m < M1 → okM D h m) ∧ (∀ o n, 0 ≤ o → o < M1 → 0 ≤ n → n < 120 → D 34 (120 * (120 * h + o) + n) = 0 ∨ D 34 (120 * (120 * h + o) + n) = 1) ∧ ((0 ≤ D 20 (24 * h + t) ∧ D 20 (24 * h + t) ≤ 23) ∧ ∀ i, 0 ≤ i → i < D 20 (24 * h + t) → 0 ≤ ab D h t i ∧ ab D h t i < t) ∧ ∀ s, 0 ≤ s → s < t → 0 ≤ D 24 (24 * h + s) ∧ 0 ≤ D 25 (24 * h + s) ∧ D 24 (24 * h + s) + D 25 (24 * h + s) ≤ M0
theorem b3_ok {D : St} {h t M0 M1 : Int} (X : BX D h t M0 M1) {L : List (Int × Int)} {m s : Int} (O : okL D h M0 M1 L) (hm : M0 ≤ m ∧ m < M1) (hs : 0 ≤ s ∧ s < t) (bm : bare D h m) (fm : ¬ D 31 (120 * h + m) = 2) (k : Nat) (hk : (k : Int) ≤ D 25 (24 * h + s)) : okL D h M0 M1 (b3 D h M0 M1 m s L k) := by
  have xs := X.2.2.2.2.2.2.2 s hs.1 hs.2
  induction k with
  | zero => exact O
  | succ k ih => exact okL_bst (ih (by omega)) hm (by omega) bm fm
theorem b2_ok {D : St} {h t M0 M1 : Int} (X : BX D h t M0 M1) {L : List (Int × Int)} {m : Int} (O : okL D h M0 M1 L) (hm : M0 ≤ m ∧ m < M1) (bm : bare D h m) (fm : ¬ D 31 (120 * h + m) = 2) (i : Nat) (hi : (i : Int) ≤ D 20 (24 * h + t)) : okL D h M0 M1 (b2 D h t M0 M1 m L i) := by
  induction i with
  | zero => exact O
  | succ i ih =>
    have hs := X.2.2.2.2.2.2.1.2 i (by omega) (by omega)
    have xs := X.2.2.2.2.2.2.2 _ hs.1 hs.2
    exact b3_ok X (ih (by omega)) hm hs bm fm _ (by omega)
theorem b1_ok {D : St} {h t M0 M1 : Int} (X : BX D h t M0 M1) (j : Nat) (hj : M0 + (j : Int) ≤ M1) : okL D h M0 M1 (b1 D h t M0 M1 j) := by
  induction j with
  | zero => exact ⟨fun p hp => absurd hp List.not_mem_nil, fun i j _ hj => absurd hj (Nat.not_lt_zero _)⟩
  | succ j ih =>
    have xs := X.2.2.2.2.2.2.1.1
    rw [b1]
    split
    · rename_i c
      exact b2_ok X (ih (by omega)) (by omega) c.1 c.2 _ (by omega)
    · exact ih (by omega)
/-- the reference's rows hold L from base on -/
def rwB (h t a j : Int) : Prop := (a = 5 ∧ j = h) ∨ ((a = 26 ∨ a = 27) ∧ j = 24 * h + t) ∨ a = 35 ∨ a = 36
def LR (D : St) (h t base : Int) (L : List (Int × Int)) (S : St) : Prop := (∀ a j, ¬ rwB h t a j → S a j = D a j) ∧ S 5 h = base + L.length ∧ S 26 (24 * h + t) = base ∧ S 27 (24 * h + t) = L.length ∧ (∀ i : Nat, i < L.length → S 35 (7200 * h + (base + i)) = (L.getD i (0, 0)).1 ∧ S 36 (7200 * h + (base + i)) = (L.getD i (0, 0)).2) ∧ ∀ j, j < 7200 * h + base ∨ 7200 * h + 2880 ≤ j → S 35 j = D 35 j ∧ S 36 j = D 36 j
theorem LR.eq {D S : St} {h t base : Int} {L : List (Int × Int)} (R : LR D h t base L S) {a : Int} (ha : ¬ a = 5) (h6 : ¬ a = 26) (h7 : ¬ a = 27) (h35 : ¬ a = 35) (h36 : ¬ a = 36) : S a = D a := funext (fun j => R.1 a j (by unfold rwB; omega))
theorem LR_sou {D S : St} {h t base : Int} {L : List (Int × Int)} (R : LR D h t base L S) {a c : Int} : sou S h a c ↔ sou D h a c := by
  unfold sou erL kEr bnd
  rw [R.eq (a := 29) (by decide) (by decide) (by decide) (by decide) (by decide), R.eq (a := 32) (by decide) (by decide) (by decide) (by decide) (by decide), R.eq (a := 28) (by decide) (by decide) (by decide) (by decide) (by decide), R.eq (a := 33) (by decide) (by decide) (by decide) (by decide) (by decide), R.eq (a := 15) (by decide) (by decide) (by decide) (by decide) (by decide)]
theorem LR_okM {D S : St} {h t base : Int} {L : List (Int × Int)} (R : LR D h t base L S) {m : Int} : okM S h m ↔ okM D h m := by
  unfold okM
  rw [R.eq (a := 28) (by decide) (by decide) (by decide) (by decide) (by decide), R.eq (a := 32) (by decide) (by decide) (by decide) (by decide) (by decide), R.eq (a := 33) (by decide) (by decide) (by decide) (by decide) (by decide)]
theorem ixB {h base : Int} {i n : Nat} (hh : 0 ≤ h ∧ h ≤ 1) (hb : 0 ≤ base ∧ base ≤ 2760) (hi : i < n) (hn : n ≤ 120) : w32 (w32 (w32 (7200 * h) + base) + ((0 : Int) + i)) = 7200 * h + (base + i) ∧ (0 ≤ 7200 * h + (base + (i : Int)) ∧ 7200 * h + (base + (i : Int)) < 14400) ∧ w32 ((0 : Int) + i + 1) = 0 + i + 1 ∧ ¬ ((n : Int) ≤ 0 + (i : Int)) := by
  rw [w32_eq (x := 7200 * h) (by omega) (by omega), w32_eq (x := 7200 * h + base) (by omega) (by omega), w32_eq (x := 7200 * h + base + (0 + (i : Int))) (by omega) (by omega), w32_eq (x := (0 : Int) + i + 1) (by omega) (by omega)]
  omega
theorem eqB {i j : Nat} (h : (0 : Int) + i = j) : j = i := by omega
theorem ixT {h t : Int} (hh : 0 ≤ h ∧ h ≤ 1) (ht : 0 ≤ t ∧ t < 24) : 0 ≤ 24 * h + t ∧ 24 * h + t < 48 := by omega
theorem R_hasSought {D S : St} {h t M0 M1 base n : Int} {L : List (Int × Int)} {k : Int → Prop} (X : BX D h t M0 M1) (hS : S 0 10 = h) (hb : 0 ≤ base ∧ base ≤ 2760) (R : LR D h t base L S) (O : okL D h M0 M1 L) (hn : 0 ≤ n ∧ n < M1) (h1 : cov D h M0 M1 L n → k 1) (h0 : ¬ cov D h M0 M1 L n → k 0) : wX8_hasSought S t n k := by
  obtain ⟨hh, ht, hM, hF, hK, h34, h20, hs⟩ := X
  have hb01 : 0 ≤ h ∧ h ≤ 1 := by unfold half01 at hh; omega
  have A : AgD S S := fun _ _ _ _ => rfl
  have len := okL_len ⟨hM.1, by omega⟩ O
  have e24 : S 24 (24 * h + t) = M0 := by rw [R.eq (a := 24) (by decide) (by decide) (by decide) (by decide) (by decide)]; exact hF.1
  have e25 : S 25 (24 * h + t) = M1 - M0 := by rw [R.eq (a := 25) (by decide) (by decide) (by decide) (by decide) (by decide)]; omega
  have okn := (LR_okM R).mpr (hK n hn.1 hn.2)
  unfold wX8_hasSought wX8_hasSought_0
  refine R_t hS hh ht ⟨by omega, fun x ex => ?_⟩
  rw [e24] at ex
  rw [ex]
  have br : ∀ fl : Int, (fl = 0 ∨ fl = 1) → ((fl = 1 ∨ ∃ p, p ∈ L ∧ sou D h p.2 n) → k 1) → (¬ (fl = 1 ∨ ∃ p, p ∈ L ∧ sou D h p.2 n) → k 0) → wX8_hasSought_66 S n (24 * h + t) fl 0 k := by
    intro fl f01 y1 y0
    unfold wX8_hasSought_66
    refine wlp_any (lo := 0) L.length (fun i => ∃ j : Nat, i = j ∧ j < L.length ∧ sou D h (L.getD j (0, 0)).2 n) k ?_ ?_ fl f01 (fun z => y1 ?_) (fun z => y0 ?_)
    · intro P i fl' hi f01' p1 p2 p3
      show wX8_hasSought_66_b S n (24 * h + t) fl' ((0 : Int) + i) (fun b0 b1 => P (b0, b1)) k
      unfold wX8_hasSought_66_b wX8_hasSought_113
      have ix := ixB hb01 hb hi len
      have hp : L.getD i (0, 0) ∈ L := by
        rw [List.getD_eq_getElem?_getD, List.getElem?_eq_getElem hi]
        exact List.getElem_mem hi
      have op := (O.1 _ hp).2.1
      have op2 : (L.getD i (0, 0)).2 < M1 := Int.lt_of_lt_of_le op.2 hM.2.1
      rw [ix.2.2.1, hS, R.2.2.1, ix.1, R.2.2.2.1, (R.2.2.2.2.1 i hi).2]
      refine ⟨ixT hb01 ht, fun z => absurd z ix.2.2.2, fun _ => ⟨fun z x ex => by rw [ex]; exact p1 z, fun z => ⟨ixT hb01 ht, ix.2.1, R_isSought A hS hh ((LR_okM R).mpr (hK _ op.1 op2)) okn (fun g => ⟨fun z => absurd z (by decide), fun _ x ex => ?_⟩) (fun g => ⟨fun _ x ex => ?_, fun z => absurd rfl z⟩)⟩⟩⟩
      · rw [ex]; exact p2 z ⟨i, by simp, hi, (LR_sou R).mp g⟩
      · rw [ex]
        refine p3 z (fun ⟨j, j1, j2, j3⟩ => g ((LR_sou R).mpr ?_))
        have : j = i := eqB j1
        rw [← this]; exact j3
    · intro P fl' f01' hk
      show wX8_hasSought_66_b S n (24 * h + t) fl' ((0 : Int) + (L.length : Int)) (fun b0 b1 => P (b0, b1)) k
      unfold wX8_hasSought_66_b
      rw [R.2.2.2.1]
      exact ⟨ixT hb01 ht, fun _ => ⟨f01', hk⟩, fun z => absurd z (by rw [Int.zero_add]; exact Int.lt_irrefl _)⟩
    · rcases z with z | ⟨x, x0, x1, j, j1, j2, j3⟩
      · exact Or.inl z
      · refine Or.inr ⟨L.getD j (0, 0), ?_, j3⟩
        rw [List.getD_eq_getElem?_getD, List.getElem?_eq_getElem j2]
        exact List.getElem_mem j2
    · rintro (w | ⟨p, hp, hs⟩)
      · exact z (Or.inl w)
      · obtain ⟨j, hj, ej⟩ := List.getElem_of_mem hp
        refine z (Or.inr ⟨j, Int.natCast_nonneg _, by simp only [Int.zero_add]; exact Int.ofNat_lt.mpr hj, j, rfl, hj, ?_⟩)
        have : L.getD j (0, 0) = p := by rw [← ej]; simp [hj]
        rw [this]; exact hs
  unfold wX8_hasSought_17
  refine wlp_any (lo := M0) (M1 - M0).toNat (fun x => sou D h x n) (fun fl => wX8_hasSought_66 S n (24 * h + t) fl 0 k) ?_ ?_ 0 (Or.inl rfl) (fun z => br 1 (Or.inr rfl) (fun _ => h1 (Or.inl ?_)) (fun w => absurd (Or.inl rfl) w)) (fun z => br 0 (Or.inl rfl) (fun w => h1 (Or.inr ?_)) (fun w => h0 ?_))
  · intro P i fl hi f01 p1 p2 p3
    show wX8_hasSought_17_b S n (24 * h + t) fl (M0 + i) (fun b0 b1 => P (b0, b1)) k
    unfold wX8_hasSought_17_b wX8_hasSought_50
    have w1 : w32 (M0 + i + 1) = M0 + i + 1 := w32_eq (by omega) (by omega)
    have w2 : w32 (S 24 (24 * h + t) + S 25 (24 * h + t)) = M1 := by rw [e24, e25, w32_eq (by omega) (by omega)]; omega
    rw [w1, w2]
    exact ⟨by omega, by omega, fun z => by omega, fun _ => ⟨fun z x ex => by rw [ex]; exact p1 z, fun z => R_isSought A hS hh ((LR_okM R).mpr (hK _ (by omega) (by omega))) okn (fun g => ⟨fun z => absurd z (by decide), fun _ x ex => by rw [ex]; exact p2 z ((LR_sou R).mp g)⟩) (fun g => ⟨fun _ x ex => by rw [ex]; exact p3 z (fun w => g ((LR_sou R).mpr w)), fun z => absurd rfl z⟩)⟩⟩
  · intro P fl f01 hk
    show wX8_hasSought_17_b S n (24 * h + t) fl (M0 + ((M1 - M0).toNat : Int)) (fun b0 b1 => P (b0, b1)) k
    unfold wX8_hasSought_17_b
    have w2 : w32 (S 24 (24 * h + t) + S 25 (24 * h + t)) = M1 := by rw [e24, e25, w32_eq (by omega) (by omega)]; omega
    rw [w2]
    exact ⟨by omega, by omega, fun _ => hk, fun z => by omega⟩
  · rcases z with z | ⟨x, x0, x1, x2⟩
    · exact absurd z (by decide)
    · exact ⟨x, x0, by omega, x2⟩
  · rcases w with w | w
    · exact absurd w (by decide)
    · exact w
  · rintro (⟨x, x0, x1, x2⟩ | g)
    · exact z (Or.inr ⟨x, x0, by omega, x2⟩)
    · exact w (Or.inr g)
theorem R_mb3 {D S : St} {h t M0 M1 base m s : Int} {L : List (Int × Int)} (i : Int) (X : BX D h t M0 M1) (hD : D 0 10 = h) (hb : 0 ≤ base ∧ base ≤ 2760) (R : LR D h t base L S) (O : okL D h M0 M1 L) (hm : M0 ≤ m ∧ m < M1) (hs : 0 ≤ s ∧ s < t) (bm : bare D h m) (fm : ¬ D 31 (120 * h + m) = 2) (hi : 0 ≤ i ∧ i < 24) : ∃ S', LR D h t base (b3 D h M0 M1 m s L (D 25 (24 * h + s)).toNat) S' ∧ ∀ k : (Int → St → Prop) × (Int → St → Prop) × (St → Prop), k.2.1 (i + 1) S' → wX8_makeBridges_118 S t (24 * h + t) m i (24 * h + s) (D 24 (24 * h + s)) k.1 k.2.1 k.2.2 := by
  have X' := X
  obtain ⟨hh, ht, hM, hF, hK, h34, h20, hsx⟩ := X
  have hb01 : 0 ≤ h ∧ h ≤ 1 := by unfold half01 at hh; omega
  have xs := hsx s hs.1 hs.2
  unfold wX8_makeBridges_118
  refine run_gen (α := Int × St) (β := St) (B := fun P (k : (Int → St → Prop) × (Int → St → Prop) × (St → Prop)) x => wX8_makeBridges_118_b x.2 t (24 * h + t) m i (24 * h + s) x.1 k.1 k.2.1 (fun b0 b1 => P (b0, b1)) k.2.2)
    (fun x => ∃ j : Nat, (j : Int) ≤ D 25 (24 * h + s) ∧ x.1 = D 24 (24 * h + s) + j ∧ LR D h t base (b3 D h M0 M1 m s L j) x.2) (fun x => (D 24 (24 * h + s) + D 25 (24 * h + s) - x.1).toNat) (fun S' => LR D h t base (b3 D h M0 M1 m s L (D 25 (24 * h + s)).toNat) S') (fun k S' => k.2.1 (i + 1) S') ?_ (a := (D 24 (24 * h + s), S)) ⟨0, by omega, by simp, R⟩
  intro x ⟨j, hj, ex, R1⟩
  obtain ⟨y, S1⟩ := x
  dsimp only at ex R1
  subst ex
  have hS1 : S1 0 10 = h := (R1.1 0 10 (by unfold rwB; omega)).trans hD
  have e24 : S1 24 (24 * h + s) = D 24 (24 * h + s) := congrFun (R1.eq (a := 24) (by decide) (by decide) (by decide) (by decide) (by decide)) _
  have e25 : S1 25 (24 * h + s) = D 25 (24 * h + s) := congrFun (R1.eq (a := 25) (by decide) (by decide) (by decide) (by decide) (by decide)) _
  have w2 : w32 (S1 24 (24 * h + s) + S1 25 (24 * h + s)) = D 24 (24 * h + s) + D 25 (24 * h + s) := by rw [e24, e25, w32_eq (by omega) (by omega)]
  have O1 := b3_ok X' O hm hs bm fm j hj
  by_cases c : (j : Int) = D 25 (24 * h + s)
  · right
    refine ⟨S1, by rw [show (D 25 (24 * h + s)).toNat = j by omega]; exact R1, fun P k hk => ?_⟩
    show wX8_makeBridges_118_b S1 t (24 * h + t) m i (24 * h + s) (D 24 (24 * h + s) + j) k.1 k.2.1 (fun b0 b1 => P (b0, b1)) k.2.2
    unfold wX8_makeBridges_118_b
    rw [w2]
    refine ⟨by omega, by omega, fun _ x ex => ?_, fun z => by omega⟩
    rw [ex, w32_eq (by omega) (by omega)]
    exact hk
  · left
    obtain ⟨n, en⟩ : ∃ n, n = D 24 (24 * h + s) + (j : Int) := ⟨_, rfl⟩
    have hn : 0 ≤ n ∧ n < M0 := by omega
    obtain ⟨L1, eL1⟩ : ∃ L1, L1 = b3 D h M0 M1 m s L j := ⟨_, rfl⟩
    rw [← eL1] at R1 O1
    have len := okL_len ⟨hM.1, by omega⟩ (okL_bst (n := n) O1 hm hn bm fm)
    have w1 : w32 (n + 1) = n + 1 := w32_eq (by omega) (by omega)
    have A1 : AgD S1 S1 := fun _ _ _ _ => rfl
    have e34 : ∀ o q, ovr S1 h o q ↔ ovr D h o q := fun o q => by unfold ovr; rw [R1.eq (a := 34) (by decide) (by decide) (by decide) (by decide) (by decide)]
    have h01 : S1 34 (120 * (120 * h + m) + n) = 0 ∨ S1 34 (120 * (120 * h + m) + n) = 1 := by
      rw [R1.eq (a := 34) (by decide) (by decide) (by decide) (by decide) (by decide)]
      exact h34 m n (by omega) hm.2 hn.1 (by omega)
    have okm := (LR_okM R1).mpr (hK m (by omega) hm.2)
    have okn := (LR_okM R1).mpr (hK n hn.1 (by omega))
    have nx : b3 D h M0 M1 m s L (j + 1) = bst D h M0 M1 L1 m n := by rw [b3, ← eL1, ← en]
    have keep : ¬ (ovr D h m n ∧ ¬ cov D h M0 M1 L1 n) → ∃ a', (∃ j' : Nat, (j' : Int) ≤ D 25 (24 * h + s) ∧ a'.1 = D 24 (24 * h + s) + j' ∧ LR D h t base (b3 D h M0 M1 m s L j') a'.2) ∧ (D 24 (24 * h + s) + D 25 (24 * h + s) - a'.1).toNat < (D 24 (24 * h + s) + D 25 (24 * h + s) - (D 24 (24 * h + s) + (j : Int))).toNat ∧ ∀ (P : Int × St → Prop) (k : (Int → St → Prop) × (Int → St → Prop) × (St → Prop)), P a' → wX8_makeBridges_118_b S1 t (24 * h + t) m i (24 * h + s) (D 24 (24 * h + s) + j) k.1 k.2.1 (fun b0 b1 => P (b0, b1)) k.2.2 := by
      intro z
      have same : bst D h M0 M1 L1 m n = L1 := by unfold bst; rw [if_neg z]
      refine ⟨(n + 1, S1), ⟨j + 1, by omega, by dsimp only; omega, by rw [nx, same]; exact R1⟩, by dsimp only; omega, fun P k hP => ?_⟩
      rw [← en]
      unfold wX8_makeBridges_118_b
      rw [w2, w1]
      have st : ∀ x : Int, x = n + 1 → P (x, S1) := fun x ex => by rw [ex]; exact hP
      refine ⟨by omega, by omega, fun z => by omega, fun _ => R_isOver A1 hS1 hh (by omega) (by omega) h01 (fun g => ⟨fun z => absurd z (by decide), fun _ => R_isSought A1 hS1 hh okm okn (fun g2 => ⟨fun _ => st, fun z => absurd z (by decide)⟩) (fun g2 => ⟨fun z => absurd rfl z, fun _ => R_hasSought X' hS1 hb R1 O1 ⟨hn.1, by omega⟩ (fun g3 => ⟨fun _ => st, fun z => absurd z (by decide)⟩) (fun g3 => absurd ⟨(e34 m n).mp g, g3⟩ z)⟩)⟩) (fun g => ⟨fun _ => st, fun z => absurd rfl z⟩)⟩
    by_cases z : ovr D h m n ∧ ¬ cov D h M0 M1 L1 n
    · have add : bst D h M0 M1 L1 m n = L1 ++ [(m, n)] := by unfold bst; rw [if_pos z]
      rw [add, List.length_append, List.length_singleton] at len
      obtain ⟨q, eq⟩ : ∃ q, q = 7200 * h + (base + (L1.length : Int)) := ⟨_, rfl⟩
      obtain ⟨T, hT⟩ : ∃ T, T = up (up (up (up S1 35 q m) 36 q n) 5 h (base + L1.length + 1)) 27 (24 * h + t) (L1.length + 1) := ⟨_, rfl⟩
      have oT : ∀ a y, ¬ (a = 35 ∧ y = q) → ¬ (a = 36 ∧ y = q) → ¬ (a = 5 ∧ y = h) → ¬ (a = 27 ∧ y = 24 * h + t) → T a y = S1 a y := fun a y x1 x2 x3 x4 => by rw [hT, up_n _ x4, up_n _ x3, up_n _ x2, up_n _ x1]
      refine ⟨(n + 1, T), ⟨j + 1, by omega, by dsimp only; omega, ?_⟩, by dsimp only; omega, fun P k hP => ?_⟩
      · dsimp only
        rw [nx, add]
        refine ⟨fun a y x => ?_, ?_, ?_, ?_, fun i' hi' => ?_, fun y hy => ?_⟩
        · unfold rwB at x
          rw [oT a y (by omega) (by omega) (by omega) (by omega)]
          exact R1.1 a y (by unfold rwB; omega)
        · rw [hT, up_n _ (by omega), up_s, List.length_append]; simp; omega
        · rw [oT _ _ (by omega) (by omega) (by omega) (by omega)]; exact R1.2.2.1
        · rw [hT, up_s]; simp
        · rw [List.length_append, List.length_singleton] at hi'
          by_cases e : i' = L1.length
          · subst e
            rw [← eq, hT, up_n _ (by omega), up_n _ (by omega), up_n _ (by omega), up_s, up_n _ (by omega), up_n _ (by omega), up_s]
            simp
          · rw [oT _ _ (by omega) (by omega) (by omega) (by omega), oT _ _ (by omega) (by omega) (by omega) (by omega)]
            have := R1.2.2.2.2.1 i' (by omega)
            rw [this.1, this.2]
            simp [List.getElem?_append_left (show i' < L1.length by omega)]
        · rw [oT _ _ (by omega) (by omega) (by omega) (by omega), oT _ _ (by omega) (by omega) (by omega) (by omega)]
          exact R1.2.2.2.2.2 y hy
      · show wX8_makeBridges_118_b S1 t (24 * h + t) m i (24 * h + s) (D 24 (24 * h + s) + j) k.1 k.2.1 (fun b0 b1 => P (b0, b1)) k.2.2
        rw [← en]
        unfold wX8_makeBridges_118_b
        rw [w2, w1, hS1, R1.2.1]
        have e5 : w32 (w32 (7200 * h) + (base + (L1.length : Int))) = q := by rw [w32_eq (x := 7200 * h) (by omega) (by omega), w32_eq (by omega) (by omega), eq]
        rw [e5]
        have ns : ¬ sou D h m n := fun w => z.2 (Or.inl ⟨m, hm.1, hm.2, w⟩)
        refine ⟨by omega, by omega, fun z => by omega, fun _ => R_isOver A1 hS1 hh (by omega) (by omega) h01 (fun g => ⟨fun z => absurd z (by decide), fun _ => R_isSought A1 hS1 hh okm okn (fun g2 => absurd ((LR_sou R1).mp g2) ns) (fun g2 => ⟨fun z => absurd rfl z, fun _ => R_hasSought X' hS1 hb R1 O1 ⟨hn.1, by omega⟩ (fun g3 => absurd g3 z.2) (fun g3 => ⟨fun z => absurd rfl z, fun _ => ⟨by omega, fun y ey => ?_⟩⟩)⟩)⟩) (fun g => absurd ((e34 m n).mpr z.1) g)⟩
        rw [ey]
        refine ⟨by omega, fun U1 u1 => ⟨by omega, fun U2 u2 => ?_⟩⟩
        have h10 : U2 0 10 = h := by rw [u2, up_n _ (by omega), u1, up_n _ (by omega)]; exact hS1
        have h5 : U2 5 h = base + L1.length := by rw [u2, up_n _ (by omega), u1, up_n _ (by omega)]; exact R1.2.1
        rw [h10, h5, w32_eq (by omega) (by omega)]
        refine ⟨by omega, by omega, fun U3 u3 => ⟨by omega, by omega, fun U4 u4 x ex => ?_⟩⟩
        have h27 : U3 27 (24 * h + t) = L1.length := by rw [u3, up_n _ (by omega), u2, up_n _ (by omega), u1, up_n _ (by omega)]; exact R1.2.2.2.1
        rw [h27, w32_eq (by omega) (by omega)] at u4
        have : U4 = T := by rw [u4, u3, u2, u1, hT]
        rw [ex, this]
        exact hP
    · exact keep z
theorem R_mb2 {D S : St} {h t M0 M1 base m : Int} {L : List (Int × Int)} (X : BX D h t M0 M1) (hD : D 0 10 = h) (hb : 0 ≤ base ∧ base ≤ 2760) (R : LR D h t base L S) (O : okL D h M0 M1 L) (hm : M0 ≤ m ∧ m < M1) (bm : bare D h m) (fm : ¬ D 31 (120 * h + m) = 2) : ∃ S', LR D h t base (b2 D h t M0 M1 m L (D 20 (24 * h + t)).toNat) S' ∧ ∀ k : (Int → St → Prop) × (St → Prop), k.1 (m + 1) S' → wX8_makeBridges_80 S t (24 * h + t) m 0 k.1 k.2 := by
  have X' := X
  obtain ⟨hh, ht, hM, hF, hK, h34, h20, hsx⟩ := X
  have hb01 : 0 ≤ h ∧ h ≤ 1 := by unfold half01 at hh; omega
  unfold wX8_makeBridges_80
  refine run_gen (α := Int × St) (β := St) (B := fun P (k : (Int → St → Prop) × (St → Prop)) x => wX8_makeBridges_80_b x.2 t (24 * h + t) m x.1 k.1 (fun b0 b1 => P (b0, b1)) k.2)
    (fun x => ∃ i : Nat, (i : Int) ≤ D 20 (24 * h + t) ∧ x.1 = i ∧ LR D h t base (b2 D h t M0 M1 m L i) x.2) (fun x => (D 20 (24 * h + t) - x.1).toNat) (fun S' => LR D h t base (b2 D h t M0 M1 m L (D 20 (24 * h + t)).toNat) S') (fun k S' => k.1 (m + 1) S') ?_ (a := (0, S)) ⟨0, by omega, rfl, R⟩
  intro x ⟨i, hi, ex, R1⟩
  obtain ⟨y, S1⟩ := x
  dsimp only at ex R1
  subst ex
  have hS1 : S1 0 10 = h := (R1.1 0 10 (by unfold rwB; omega)).trans hD
  have e20 : S1 20 (24 * h + t) = D 20 (24 * h + t) := congrFun (R1.eq (a := 20) (by decide) (by decide) (by decide) (by decide) (by decide)) _
  by_cases c : (i : Int) = D 20 (24 * h + t)
  · right
    refine ⟨S1, by rw [show (D 20 (24 * h + t)).toNat = i by omega]; exact R1, fun P k hk => ?_⟩
    show wX8_makeBridges_80_b S1 t (24 * h + t) m i k.1 (fun b0 b1 => P (b0, b1)) k.2
    unfold wX8_makeBridges_80_b
    rw [e20]
    refine ⟨by omega, fun _ x ex => ?_, fun z => by omega⟩
    rw [ex, w32_eq (by omega) (by omega)]
    exact hk
  · left
    have hs := h20.2 i (by omega) (by omega)
    have O1 := b2_ok X' O hm bm fm i hi
    obtain ⟨S2, R2, run⟩ := R_mb3 (i := i) X' hD hb R1 O1 hm hs bm fm (by omega)
    refine ⟨((i : Int) + 1, S2), ⟨i + 1, by omega, by dsimp only; omega, R2⟩, by dsimp only; omega, fun P k hP => ?_⟩
    show wX8_makeBridges_80_b S1 t (24 * h + t) m i k.1 (fun b0 b1 => P (b0, b1)) k.2
    unfold wX8_makeBridges_80_b
    have e21 : S1 21 (24 * (24 * h + t) + i) = ab D h t i := congrFun (R1.eq (a := 21) (by decide) (by decide) (by decide) (by decide) (by decide)) _
    rw [e20, w32_eq (x := 24 * (24 * h + t)) (by omega) (by omega), w32_eq (x := 24 * (24 * h + t) + (i : Int)) (by omega) (by omega), e21]
    refine ⟨by omega, fun z => by omega, fun _ => ⟨by omega, R_t hS1 hh (by omega) ⟨by omega, fun x ex => ?_⟩⟩⟩
    rw [congrFun (R1.eq (a := 24) (by decide) (by decide) (by decide) (by decide) (by decide)) _] at ex
    rw [ex]
    exact run (k.1, (fun b0 b1 => P (b0, b1)), k.2) hP
theorem R_makeBridges {D : St} {h t M0 M1 base : Int} (X : BX D h t M0 M1) (hD : D 0 10 = h) (hb : 0 ≤ base ∧ base ≤ 2760) (h5 : D 5 h = base) : ∃ S', LR D h t base (b1 D h t M0 M1 (M1 - M0).toNat) S' ∧ ∀ k : St → Prop, k S' → wX8_makeBridges D t k := by
  have X' := X
  obtain ⟨hh, ht, hM, hF, hK, h34, h20, hsx⟩ := X
  have hb01 : 0 ≤ h ∧ h ≤ 1 := by unfold half01 at hh; omega
  obtain ⟨T, hT⟩ : ∃ T, T = up (up D 26 (24 * h + t) base) 27 (24 * h + t) 0 := ⟨_, rfl⟩
  have RT : LR D h t base [] T := by
    refine ⟨fun a j x => ?_, ?_, ?_, ?_, fun i hi => absurd hi (Nat.not_lt_zero _), fun j _ => ?_⟩
    · unfold rwB at x; rw [hT, up_n _ (by omega), up_n _ (by omega)]
    · rw [hT, up_n _ (by omega), up_n _ (by omega), h5]; simp
    · rw [hT, up_n _ (by omega), up_s]
    · rw [hT, up_s]; rfl
    · rw [hT, up_n _ (by omega), up_n _ (by omega), up_n _ (by omega), up_n _ (by omega)]; exact ⟨rfl, rfl⟩
  have main : ∃ S', LR D h t base (b1 D h t M0 M1 (M1 - M0).toNat) S' ∧ ∀ k : St → Prop, k S' → wX8_makeBridges_35 T t (24 * h + t) M0 k := by
    unfold wX8_makeBridges_35
    refine run_gen (α := Int × St) (β := St) (B := fun P (k : St → Prop) x => wX8_makeBridges_35_b x.2 t (24 * h + t) x.1 (fun b0 b1 => P (b0, b1)) k)
      (fun x => ∃ j : Nat, M0 + (j : Int) ≤ M1 ∧ x.1 = M0 + j ∧ LR D h t base (b1 D h t M0 M1 j) x.2) (fun x => (M1 - x.1).toNat) (fun S' => LR D h t base (b1 D h t M0 M1 (M1 - M0).toNat) S') (fun k S' => k S') ?_ (a := (M0, T)) ⟨0, by omega, by simp, RT⟩
    intro x ⟨j, hj, ex, R1⟩
    obtain ⟨y, S1⟩ := x
    dsimp only at ex R1
    subst ex
    have hS1 : S1 0 10 = h := (R1.1 0 10 (by unfold rwB; omega)).trans hD
    have e24 : S1 24 (24 * h + t) = D 24 (24 * h + t) := congrFun (R1.eq (a := 24) (by decide) (by decide) (by decide) (by decide) (by decide)) _
    have e25 : S1 25 (24 * h + t) = D 25 (24 * h + t) := congrFun (R1.eq (a := 25) (by decide) (by decide) (by decide) (by decide) (by decide)) _
    have w2 : w32 (S1 24 (24 * h + t) + S1 25 (24 * h + t)) = M1 := by rw [e24, e25, w32_eq (by omega) (by omega)]; omega
    by_cases c : M0 + (j : Int) = M1
    · right
      refine ⟨S1, by rw [show (M1 - M0).toNat = j by omega]; exact R1, fun P k hk => ?_⟩
      show wX8_makeBridges_35_b S1 t (24 * h + t) (M0 + j) (fun b0 b1 => P (b0, b1)) k
      unfold wX8_makeBridges_35_b
      rw [w2]
      exact ⟨by omega, by omega, fun _ => hk, fun z => by omega⟩
    · left
      have O1 := b1_ok X' j hj
      have e31 : S1 31 (120 * h + (M0 + j)) = D 31 (120 * h + (M0 + j)) := congrFun (R1.eq (a := 31) (by decide) (by decide) (by decide) (by decide) (by decide)) _
      have A1 : AgD S1 S1 := fun _ _ _ _ => rfl
      have eb : bare S1 h (M0 + j) ↔ bare D h (M0 + j) := by
        unfold bare
        rw [R1.eq (a := 31) (by decide) (by decide) (by decide) (by decide) (by decide), R1.eq (a := 30) (by decide) (by decide) (by decide) (by decide) (by decide)]
      have w1 : w32 (M0 + j + 1) = M0 + j + 1 := w32_eq (by omega) (by omega)
      by_cases g : bare D h (M0 + j) ∧ ¬ D 31 (120 * h + (M0 + j)) = 2
      · obtain ⟨S2, R2, run⟩ := R_mb2 (m := M0 + j) X' hD hb R1 O1 (by omega) g.1 g.2
        refine ⟨(M0 + j + 1, S2), ⟨j + 1, by omega, by dsimp only; omega, by dsimp only; rw [b1, if_pos g]; exact R2⟩, by dsimp only; omega, fun P k hP => ?_⟩
        show wX8_makeBridges_35_b S1 t (24 * h + t) (M0 + j) (fun b0 b1 => P (b0, b1)) k
        unfold wX8_makeBridges_35_b
        rw [w2]
        refine ⟨by omega, by omega, fun z => by omega, fun _ => R_m hS1 hh (by omega) ?_⟩
        rw [e31]
        exact ⟨by omega, fun z => absurd z g.2, fun _ => R_isBare A1 hS1 hh (by omega) (fun _ => ⟨fun _ => run (fun b0 b1 => P (b0, b1), k) hP, fun z => absurd z (by decide)⟩) (fun z => absurd (eb.mpr g.1) z)⟩
      · refine ⟨(M0 + j + 1, S1), ⟨j + 1, by omega, by dsimp only; omega, by dsimp only; rw [b1, if_neg g]; exact R1⟩, by dsimp only; omega, fun P k hP => ?_⟩
        show wX8_makeBridges_35_b S1 t (24 * h + t) (M0 + j) (fun b0 b1 => P (b0, b1)) k
        unfold wX8_makeBridges_35_b
        rw [w2, w1]
        refine ⟨by omega, by omega, fun z => by omega, fun _ => R_m hS1 hh (by omega) ?_⟩
        rw [e31]
        refine ⟨by omega, fun z x ex => by rw [ex]; exact hP, fun z => R_isBare A1 hS1 hh (by omega) (fun w => absurd ⟨eb.mp w, z⟩ g) (fun w => ⟨fun z => absurd rfl z, fun _ x ex => by rw [ex]; exact hP⟩)⟩
  obtain ⟨S', R', run⟩ := main
  refine ⟨S', R', fun k hk => ?_⟩
  unfold wX8_makeBridges wX8_makeBridges_0
  refine R_t hD hh ht ?_
  rw [hD, h5]
  refine ⟨by omega, by omega, fun U1 u1 => ⟨by omega, fun U2 u2 => ⟨by omega, fun x ex => ?_⟩⟩⟩
  have : U2 = T := by rw [u2, u1, hT]
  rw [this] at ex ⊢
  have e24 : T 24 (24 * h + t) = M0 := by rw [hT, up_n _ (by omega), up_n _ (by omega)]; exact hF.1
  rw [e24] at ex
  rw [ex]
  exact run k hk
