/-! pure: candidates, SPECIFIC ones, bodies: the reference -/
def und (D : St) (h t u : Int) : Prop := t = u ∨ ¬ D 22 (24 * (24 * h + t) + u) = 0
def own (D : St) (h x : Int) : Int := D 28 (120 * h + mem D h x)
def ab (D : St) (h t i : Int) : Int := D 21 (24 * (24 * h + t) + i)
noncomputable def cnd (D : St) (h q f : Int) : List Int := by
  classical exact if D 11 (24 * h + f) = 2 ∧ 0 ≤ mI D h f q ∧ plain D h (mI D h f q) then [mI D h f q] else []
noncomputable def caN (D : St) (h t q : Int) : Nat → List Int
  | 0 => []
  | n + 1 => caN D h t q n ++ cnd D h q (ab D h t n)
noncomputable def caL (D : St) (h t q : Int) : List Int := caN D h t q (D 20 (24 * h + t)).toNat
def isSp (D : St) (h : Int) (L : List Int) (i : Nat) : Prop := ∀ j : Nat, j < L.length → j ≠ i → ¬ und D h (own D h (L.getD j 0)) (own D h (L.getD i 0))
noncomputable def sp1 (D : St) (h : Int) (L : List Int) (i : Nat) : List Int := by
  classical exact if isSp D h L i then [L.getD i 0] else []
noncomputable def spN (D : St) (h : Int) (L : List Int) : Nat → List Int
  | 0 => []
  | n + 1 => spN D h L n ++ sp1 D h L n
/-- a type's row is sound -/
def okU (D : St) (h t : Int) : Prop := (D 19 (24 * h + t) = -13 ∨ (0 ≤ D 19 (24 * h + t) ∧ D 19 (24 * h + t) < t)) ∧ (0 ≤ D 20 (24 * h + t) ∧ D 20 (24 * h + t) ≤ t) ∧ (∀ i, 0 ≤ i → i < D 20 (24 * h + t) → 0 ≤ ab D h t i ∧ ab D h t i < t) ∧ ∀ b, D 26 (24 * h + t) ≤ b → b < D 26 (24 * h + t) + D 27 (24 * h + t) → okM D h (D 35 (7200 * h + b))
def okC (D : St) (h n : Int) : Prop := n ≤ 24 ∧ ∀ t, 0 ≤ t → t < n → okT D h t ∧ okU D h t
theorem cnd_pos {D : St} {h q f : Int} (a : D 11 (24 * h + f) = 2) (b : 0 ≤ mI D h f q) (c : plain D h (mI D h f q)) : cnd D h q f = [mI D h f q] := by
  unfold cnd; rw [if_pos ⟨a, b, c⟩]
theorem cnd_neg {D : St} {h q f : Int} (g : ¬ (D 11 (24 * h + f) = 2 ∧ 0 ≤ mI D h f q ∧ plain D h (mI D h f q))) : cnd D h q f = [] := by
  unfold cnd; rw [if_neg g]
theorem sp1_pos {D : St} {h : Int} {L : List Int} {i : Nat} (g : isSp D h L i) : sp1 D h L i = [L.getD i 0] := by
  unfold sp1; rw [if_pos g]
theorem sp1_neg {D : St} {h : Int} {L : List Int} {i : Nat} (g : ¬ isSp D h L i) : sp1 D h L i = [] := by
  unfold sp1; rw [if_neg g]
theorem mI_okX {D : St} {h t q : Int} (hT : okT D h t) (hU : okU D h t) (g : 0 ≤ mI D h t q) : okX D h (mI D h t q) := by
  rcases mI_spec D h t q with ⟨a, b, c, d⟩ | ⟨a, ⟨b, c, d, e⟩ | ⟨b, c⟩⟩
  · exact Or.inl ⟨g, by have := hT.2.1; omega, hT.2.2.2.1 _ a b⟩
  · exact Or.inr ⟨by have := hT.2.2.1; omega, by have := hT.2.2.1; omega, hU.2.2.2 _ b c, hT.2.2.2.2 _ b c⟩
  · omega
theorem cnd_ok {D : St} {h f q : Int} (hT : okT D h f) (hU : okU D h f) : ∀ x ∈ cnd D h q f, okX D h x := by
  intro x hx
  by_cases c : D 11 (24 * h + f) = 2 ∧ 0 ≤ mI D h f q ∧ plain D h (mI D h f q)
  · rw [cnd_pos c.1 c.2.1 c.2.2] at hx
    rw [List.mem_singleton.mp hx]
    exact mI_okX hT hU c.2.1
  · rw [cnd_neg c] at hx
    exact absurd hx (List.not_mem_nil)
theorem cnd_len {D : St} {h f q : Int} : (cnd D h q f).length ≤ 1 := by
  by_cases c : D 11 (24 * h + f) = 2 ∧ 0 ≤ mI D h f q ∧ plain D h (mI D h f q)
  · rw [cnd_pos c.1 c.2.1 c.2.2]; simp
  · rw [cnd_neg c]; simp
theorem sp1_len {D : St} {h : Int} {L : List Int} {i : Nat} : (sp1 D h L i).length ≤ 1 := by
  by_cases c : isSp D h L i
  · rw [sp1_pos c]; simp
  · rw [sp1_neg c]; simp
theorem caN_len (D : St) (h t q : Int) (n : Nat) : (caN D h t q n).length ≤ n := by
  induction n with
  | zero => simp [caN]
  | succ n ih =>
    have := cnd_len (D := D) (h := h) (q := q) (f := ab D h t n)
    simp only [caN, List.length_append]
    omega
theorem spN_len (D : St) (h : Int) (L : List Int) (n : Nat) : (spN D h L n).length ≤ n := by
  induction n with
  | zero => simp [spN]
  | succ n ih =>
    have := sp1_len (D := D) (h := h) (L := L) (i := n)
    simp only [spN, List.length_append]
    omega
theorem caN_ok {D : St} {h t q n : Int} (C : okC D h n) (ht : 0 ≤ t ∧ t < n) (i : Nat) (hi : (i : Int) ≤ D 20 (24 * h + t)) : ∀ x ∈ caN D h t q i, okX D h x := by
  induction i with
  | zero => intro x hx; exact absurd hx (List.not_mem_nil)
  | succ i ih =>
    intro x hx
    rcases List.mem_append.mp hx with g | g
    · exact ih (by omega) x g
    · have hU := (C.2 t ht.1 ht.2).2
      have ha := hU.2.2.1 i (by omega) (by omega)
      have hf := C.2 (ab D h t i) ha.1 (by omega)
      exact cnd_ok hf.1 hf.2 x g
theorem spN_sub (D : St) (h : Int) (L : List Int) (n : Nat) (hn : n ≤ L.length) : ∀ x ∈ spN D h L n, x ∈ L := by
  induction n with
  | zero => intro x hx; exact absurd hx (List.not_mem_nil)
  | succ n ih =>
    intro x hx
    rcases List.mem_append.mp hx with g | g
    · exact ih (by omega) x g
    · by_cases c : isSp D h L n
      · rw [sp1_pos c] at g
        rw [List.mem_singleton.mp g]
        exact getD_mem (by omega)
      · rw [sp1_neg c] at g
        exact absurd g (List.not_mem_nil)
/-- off the rows of a search nothing has changed -/
def offQ (S S' : St) : Prop := ∀ a j, a < 37 ∨ 40 < a → ¬ (a = 0 ∧ 50 ≤ j ∧ j ≤ 57) → S' a j = S a j
theorem offQ.refl (S : St) : offQ S S := fun _ _ _ _ => rfl
theorem offQ.trans {S S1 S2 : St} (h : offQ S S1) (g : offQ S1 S2) : offQ S S2 := fun a j x y => (g a j x y).trans (h a j x y)
theorem offQ.upA {S S1 : St} {c j v : Int} (h : offQ S S1) (c1 : 37 ≤ c) (c2 : c ≤ 40) : offQ S (up S1 c j v) := fun a i x y => by rw [up_n S1 (by omega)]; exact h a i x y
theorem offQ.up0 {S S1 : St} {j v : Int} (h : offQ S S1) (c1 : 50 ≤ j) (c2 : j ≤ 57) : offQ S (up S1 0 j v) := fun a i x y => by rw [up_n S1 (by omega)]; exact h a i x y
theorem offQ.ag {S S1 D : St} (h : offQ S S1) (A : AgD S D) : AgD S1 D := fun a j x y => (h a j (by omega) (by omega)).trans (A a j x y)
theorem offQ.hf {S S1 : St} {x : Int} (h : offQ S S1) (e : S 0 10 = x) : S1 0 10 = x := (h 0 10 (by omega) (by omega)).trans e
theorem und_own {D : St} {h x : Int} (g : okX D h x) : 0 ≤ own D h x ∧ own D h x < 24 := (okX_mem g).2.1
theorem R_fs_128 {S D : St} {h : Int} {L : List Int} {a : Nat} {P114 : Int → St → Prop} {k : St → Prop} (A : AgD S D) (hS : S 0 10 = h) (hh : half01 h) (hL : isL S 37 L) (hn : S 0 50 = L.length) (hl : L.length ≤ 24) (hok : ∀ x ∈ L, okX D h x) (ha : a < L.length)
    (h1 : isSp D h L a → ∀ S1 S2 : St, S1 = up S 38 (S 0 52) (L.getD a 0) → S2 = up S1 0 52 (w32 (S 0 52 + 1)) → P114 (a + 1) S2) (hs : 0 ≤ S 0 52 ∧ S 0 52 < 24) (h0 : ¬ isSp D h L a → P114 (a + 1) S) : wX8_findSpecific_128 S a 1 0 P114 k := by
  unfold wX8_findSpecific_128
  refine wlp_f0s L.length (fun i fl => (fl = 1 ∧ ∀ j : Nat, j < i → j ≠ a → ¬ und D h (own D h (L.getD j 0)) (own D h (L.getD a 0))) ∨ (fl = 0 ∧ ¬ isSp D h L a)) ?_ ?_ (Or.inl ⟨rfl, fun j hj => absurd hj (Nat.not_lt_zero _)⟩)
  · intro P i fl hi hI hP
    show wX8_findSpecific_128_b S a fl i P114 (fun b0 b1 => P (b0, b1)) k
    unfold wX8_findSpecific_128_b wX8_findSpecific_176
    rw [hn]
    refine ⟨fun c => by omega, fun _ => ⟨fun e x ex => ?_, fun e => ⟨fun e2 x ex => ?_, fun e2 => ⟨by omega, ?_⟩⟩⟩⟩
    · rw [ex, w32_eq (by omega) (by omega)]
      rcases hI with ⟨f1, f2⟩ | ⟨f1, f2⟩
      · omega
      · exact hP 0 (Or.inr ⟨rfl, f2⟩)
    · rw [ex, w32_eq (by omega) (by omega)]
      rcases hI with ⟨f1, f2⟩ | ⟨f1, f2⟩
      · refine hP 1 (Or.inl ⟨rfl, fun j hj hja => ?_⟩)
        by_cases hji : j = i
        · exact absurd (hji.trans (by omega)) hja
        · exact f2 j (by omega) hja
      · exact absurd f1 e
    · have f2 : fl = 1 ∧ ∀ j : Nat, j < i → j ≠ a → ¬ und D h (own D h (L.getD j 0)) (own D h (L.getD a 0)) := by
        rcases hI with g | ⟨f1, f2⟩
        · exact g
        · exact absurd f1 e
      have o1 := hok _ (getD_mem hi)
      have o2 := hok _ (getD_mem ha)
      rw [hL i hi, hL a ha]
      refine R_ownerOf A hS hh o1 ⟨by omega, R_ownerOf A hS hh o2 (R_isUnder A hS hh (und_own o1) (und_own o2) ?_)⟩
      show _ ∧ _
      by_cases cu : und D h (own D h (L.getD i 0)) (own D h (L.getD a 0))
      · have cu' : D 28 (120 * h + mem D h (L.getD i 0)) = D 28 (120 * h + mem D h (L.getD a 0)) ∨ ¬ D 22 (24 * (24 * h + D 28 (120 * h + mem D h (L.getD i 0))) + D 28 (120 * h + mem D h (L.getD a 0))) = 0 := cu
        rw [if_pos cu']
        refine ⟨fun _ x ex => ?_, fun c => absurd c (by decide)⟩
        rw [ex, w32_eq (by omega) (by omega)]
        exact hP 0 (Or.inr ⟨rfl, fun g => g i hi (fun e3 => e2 (by rw [e3])) cu⟩)
      · have cu' : ¬ (D 28 (120 * h + mem D h (L.getD i 0)) = D 28 (120 * h + mem D h (L.getD a 0)) ∨ ¬ D 22 (24 * (24 * h + D 28 (120 * h + mem D h (L.getD i 0))) + D 28 (120 * h + mem D h (L.getD a 0))) = 0) := cu
        rw [if_neg cu']
        refine ⟨fun c => absurd rfl c, fun _ x ex => ?_⟩
        rw [ex, w32_eq (by omega) (by omega)]
        refine hP 1 (Or.inl ⟨rfl, fun j hj hja => ?_⟩)
        by_cases hji : j = i
        · subst hji; exact cu
        · exact f2.2 j (by omega) hja
  · intro P fl hI
    show wX8_findSpecific_128_b S a fl L.length P114 (fun b0 b1 => P (b0, b1)) k
    unfold wX8_findSpecific_128_b
    rw [hn]
    refine ⟨fun _ => ⟨fun e x ex => ?_, fun e => ⟨by omega, hs, fun S1 e1 S2 e2 x ex => ?_⟩⟩, fun c => by omega⟩
    · rw [ex, w32_eq (by omega) (by omega)]
      rcases hI with ⟨f1, f2⟩ | ⟨f1, f2⟩
      · omega
      · exact h0 f2
    · rw [ex, w32_eq (by omega) (by omega)]
      rcases hI with ⟨f1, f2⟩ | ⟨f1, f2⟩
      · have e3 : S1 0 52 = S 0 52 := by rw [e1, up_n S (by omega)]
        rw [hL a ha] at e1
        rw [e3] at e2
        exact h1 (fun j hj hja => f2 j hj hja) S1 S2 e1 e2
      · exact absurd f1 e
/-- what a search leaves: candidates, SPECIFIC ones -/
def fsp (D S' : St) (h : Int) (L : List Int) : Prop := isL S' 37 L ∧ S' 0 50 = L.length ∧ isL S' 38 (spN D h L L.length) ∧ S' 0 52 = (spN D h L L.length).length
theorem R_fs_114 {S D : St} {h : Int} {L : List Int} {k : St → Prop} (A : AgD S D) (hS : S 0 10 = h) (hh : half01 h) (hL : isL S 37 L) (hn : S 0 50 = L.length) (hl : L.length ≤ 24) (hok : ∀ x ∈ L, okX D h x) (h52 : S 0 52 = 0) (hk : ∀ S', offQ S S' → fsp D S' h L → k S') : wX8_findSpecific_114 S 0 k := by
  unfold wX8_findSpecific_114
  refine wlp_for L.length (fun i S1 => offQ S S1 ∧ isL S1 37 L ∧ S1 0 50 = L.length ∧ isL S1 38 (spN D h L i) ∧ S1 0 52 = (spN D h L i).length) ?_ ?_ ⟨offQ.refl S, hL, hn, isL.nil, h52⟩
  · intro P i S1 hi hI hP
    obtain ⟨I1, I2, I3, I4, I5⟩ := hI
    show wX8_findSpecific_114_b S1 i (fun b0 b1 => P (b0, b1)) k
    unfold wX8_findSpecific_114_b
    have hle := spN_len D h L i
    refine ⟨fun c => by omega, fun _ => R_fs_128 (I1.ag A) (I1.hf hS) hh I2 I3 hl hok hi (fun g T1 T2 e1 e2 => ?_) (by omega) (fun g => ?_)⟩
    · refine hP T2 ⟨?_, ?_, ?_, ?_, ?_⟩
      · rw [e2, e1]; exact (I1.upA (by decide) (by decide)).up0 (by decide) (by decide)
      · refine I2.off (fun j => ?_)
        rw [e2, up_n _ (by omega), e1, up_n _ (by omega)]
      · rw [e2, up_n _ (by omega), e1, up_n _ (by omega)]; exact I3
      · rw [e2]
        refine isL.off (S := T1) ?_ (fun j => up_n _ (by omega))
        rw [e1, I5]
        have := I4.snoc (v := L.getD i 0)
        simpa only [spN, sp1_pos g] using this
      · rw [e2, up_s, I5, w32_eq (by omega) (by omega)]
        simp [spN, sp1_pos g]
    · refine hP S1 ⟨I1, I2, I3, ?_, ?_⟩
      · simpa only [spN, sp1_neg g, List.append_nil] using I4
      · simpa only [spN, sp1_neg g, List.append_nil] using I5
  · intro P S1 hI
    obtain ⟨I1, I2, I3, I4, I5⟩ := hI
    show wX8_findSpecific_114_b S1 L.length (fun b0 b1 => P (b0, b1)) k
    unfold wX8_findSpecific_114_b
    exact ⟨fun _ => hk S1 I1 ⟨I2, I3, I4, I5⟩, fun c => by omega⟩
theorem R_findSpecific {S D : St} {h t q n : Int} {k : St → Prop} (A : AgD S D) (hS : S 0 10 = h) (hh : half01 h) (C : okC D h n) (ht : 0 ≤ t ∧ t < n) (hq : okM D h q) (hk : ∀ S', offQ S S' → fsp D S' h (caL D h t q) → k S') : wX8_findSpecific S t q k := by
  have hb01 : 0 ≤ h ∧ h ≤ 1 := by unfold half01 at hh; omega
  have hn24 := C.1
  have hU := (C.2 t ht.1 ht.2).2
  obtain ⟨N, hN⟩ : ∃ N : Nat, D 20 (24 * h + t) = N := ⟨(D 20 (24 * h + t)).toNat, by have := hU.2.1; omega⟩
  have eL : caL D h t q = caN D h t q N := by unfold caL; rw [hN]; rfl
  rw [eL] at hk
  have hN24 : N ≤ 23 := by have := hU.2.1; omega
  unfold wX8_findSpecific wX8_findSpecific_0
  intro T1 e1 T2 e2
  have o2 : offQ S T2 := by rw [e2, e1]; exact ((offQ.refl S).up0 (by decide) (by decide)).up0 (by decide) (by decide)
  have z50 : T2 0 50 = 0 := by rw [e2, up_n _ (by omega), e1, up_s]
  have z52 : T2 0 52 = 0 := by rw [e2, up_s]
  unfold wX8_findSpecific_12
  refine wlp_for N (fun i S1 => offQ S S1 ∧ isL S1 37 (caN D h t q i) ∧ S1 0 50 = (caN D h t q i).length ∧ S1 0 52 = 0) ?_ ?_ ⟨o2, isL.nil, z50, z52⟩
  · intro P i S1 hi hI hP
    obtain ⟨I1, I2, I3, I4⟩ := hI
    show wX8_findSpecific_12_b S1 t q i (fun b0 b1 => P (b0, b1)) k
    unfold wX8_findSpecific_12_b
    have A1 := I1.ag A
    have hS1 := I1.hf hS
    have hle := caN_len D h t q i
    refine R_t hS1 hh (by omega) ?_
    rw [A1 20 _ (by decide) (by decide), hN]
    refine ⟨by omega, fun c => by omega, fun _ => R_t hS1 hh (by omega) ?_⟩
    rw [w32_eq (x := 24 * (24 * h + t)) (by omega) (by omega), w32_eq (by omega) (by omega), A1 21 _ (by decide) (by decide)]
    refine ⟨by omega, fun f ef => ?_⟩
    have ef : f = ab D h t i := ef
    have hf := hU.2.2.1 i (by omega) (by omega)
    rw [← ef] at hf
    have hF := C.2 f hf.1 (by omega)
    have h0 : cnd D h q f = [] → P ((i : Int) + 1, S1) := by
      intro g
      have eC : caN D h t q (i + 1) = caN D h t q i := by simp only [caN, ← ef, g, List.append_nil]
      exact hP S1 ⟨I1, by rw [eC]; exact I2, by rw [eC]; exact I3, I4⟩
    refine R_t hS1 hh (by omega) ?_
    rw [A1 11 _ (by decide) (by decide)]
    refine ⟨by omega, fun c => ?_, fun c => R_mI A1 hS1 hh hF.1 hq ?_⟩
    · unfold wX8_findSpecific_69
      refine ⟨fun _ x ex => ?_, fun c2 => absurd c2 (by decide)⟩
      rw [ex, w32_eq (by omega) (by omega)]
      exact h0 (cnd_neg (fun g => c g.1))
    · unfold wX8_findSpecific_69
      refine ⟨fun c2 x ex => ?_, fun c2 => R_isPlain A1 hS1 hh (mI_okX hF.1 hF.2 c2) (fun g => ⟨fun c3 => absurd c3 (by decide), fun _ => ?_⟩) (fun g => ⟨fun _ x ex => ?_, fun c3 => absurd rfl c3⟩)⟩
      · rw [ex, w32_eq (by omega) (by omega)]
        exact h0 (cnd_neg (fun g => by omega))
      · refine ⟨by omega, fun S2 e2 S3 e3 x ex => ?_⟩
        rw [ex, w32_eq (by omega) (by omega)]
        have eC : caN D h t q (i + 1) = caN D h t q i ++ [mI D h f q] := by simp only [caN, ← ef, cnd_pos c c2 g]
        have e4 : S2 0 50 = S1 0 50 := by rw [e2, up_n _ (by omega)]
        refine hP S3 ⟨?_, ?_, ?_, ?_⟩
        · rw [e3, e2]; exact (I1.upA (by decide) (by decide)).up0 (by decide) (by decide)
        · rw [e3, eC]
          refine isL.off (S := S2) ?_ (fun j => up_n _ (by omega))
          rw [e2, I3]
          exact I2.snoc
        · rw [e3, up_s, e4, I3, w32_eq (by omega) (by omega), eC]
          simp
        · rw [e3, up_n _ (by omega), e2, up_n _ (by omega)]; exact I4
      · rw [ex, w32_eq (by omega) (by omega)]
        exact h0 (cnd_neg (fun g2 => g g2.2.2))
  · intro P S1 hI
    obtain ⟨I1, I2, I3, I4⟩ := hI
    show wX8_findSpecific_12_b S1 t q N (fun b0 b1 => P (b0, b1)) k
    unfold wX8_findSpecific_12_b
    have A1 := I1.ag A
    have hS1 := I1.hf hS
    have hle := caN_len D h t q N
    refine R_t hS1 hh (by omega) ?_
    rw [A1 20 _ (by decide) (by decide), hN]
    refine ⟨by omega, fun _ => R_fs_114 A1 hS1 hh I2 I3 (by omega) (caN_ok C ht N (by omega)) I4 (fun S2 g1 g2 => hk S2 (I1.trans g1) g2), fun c => by omega⟩
