/-! pure: bodies, LOOKUP, MAY: the reference -/
theorem R_und {S D : St} {t u h : Int} {k : Int → Prop} (A : AgD S D) (hS : S 0 10 = h) (hh : half01 h) (ht : 0 ≤ t ∧ t < 24) (hu : 0 ≤ u ∧ u < 24) (h1 : und D h t u → k 1) (h0 : ¬ und D h t u → k 0) : wX8_isUnder S t u k := by
  refine R_isUnder A hS hh ht hu ?_
  by_cases c : und D h t u
  · have c' : t = u ∨ ¬ D 22 (24 * (24 * h + t) + u) = 0 := c
    rw [if_pos c']; exact h1 c
  · have c' : ¬ (t = u ∨ ¬ D 22 (24 * (24 * h + t) + u) = 0) := c
    rw [if_neg c']; exact h0 c
def sam (D : St) (h t u : Int) : Prop := D 9 (24 * h + t) = D 9 (24 * h + u) ∧ D 10 (24 * h + t) = D 10 (24 * h + u)
theorem R_sam {S D : St} {t u h : Int} {k : Int → Prop} (A : AgD S D) (hS : S 0 10 = h) (hh : half01 h) (ht : 0 ≤ t ∧ t < 24) (hu : 0 ≤ u ∧ u < 24) (h1 : sam D h t u → k 1) (h0 : ¬ sam D h t u → k 0) : wX8_isSamePackage S t u k := by
  refine R_isSamePackage A hS hh ht hu ?_
  by_cases c : sam D h t u
  · have c' : D 9 (24 * h + t) = D 9 (24 * h + u) ∧ D 10 (24 * h + t) = D 10 (24 * h + u) := c
    rw [if_pos c']; exact h1 c
  · have c' : ¬ (D 9 (24 * h + t) = D 9 (24 * h + u) ∧ D 10 (24 * h + t) = D 10 (24 * h + u)) := c
    rw [if_neg c']; exact h0 c
theorem take_snoc {L : List Int} {i : Nat} (h : i < L.length) : L.take (i + 1) = L.take i ++ [L.getD i 0] := by
  rw [List.take_add_one]
  simp [h]
def nab (D : St) (h x : Int) : Bool := decide (¬ shp D h x = 2)
noncomputable def bdL (D : St) (h : Int) (L : List Int) : List Int := (spN D h L L.length).filter (nab D h)
theorem getLastD_snoc (L : List Int) (x d : Int) : (L ++ [x]).getLastD d = x := by simp
def offB (S S' : St) : Prop := ∀ a j, ¬ (a = 0 ∧ 53 ≤ j ∧ j ≤ 54) → S' a j = S a j
theorem offB.q {S S1 S2 : St} (g : offQ S S1) (f : offB S1 S2) : offQ S S2 := fun a j x y => (f a j (by omega)).trans (g a j x y)
theorem R_countBodies {S D : St} {h : Int} {s : List Int} {k : St → Prop} (A : AgD S D) (hS : S 0 10 = h) (hh : half01 h) (hL : isL S 38 s) (hn : S 0 52 = s.length) (hl : s.length ≤ 24) (hok : ∀ x ∈ s, okX D h x) (hk : ∀ S', offB S S' → S' 0 53 = (s.filter (nab D h)).length → S' 0 54 = (s.filter (nab D h)).getLastD (-1) → k S') : wX8_countBodies S k := by
  unfold wX8_countBodies wX8_countBodies_0
  intro T1 e1 T2 e2
  unfold wX8_countBodies_12
  refine wlp_for s.length (fun i S1 => offB S S1 ∧ S1 0 53 = ((s.take i).filter (nab D h)).length ∧ S1 0 54 = ((s.take i).filter (nab D h)).getLastD (-1)) ?_ ?_ ⟨?_, ?_, ?_⟩
  · intro P i S1 hi hI hP
    obtain ⟨I1, I2, I3⟩ := hI
    show wX8_countBodies_12_b S1 i (fun b0 b1 => P (b0, b1)) k
    unfold wX8_countBodies_12_b
    have f52 : S1 0 52 = s.length := (I1 0 52 (by omega)).trans hn
    have f38 : ∀ j : Int, S1 38 j = S 38 j := fun j => I1 38 j (by omega)
    have A1 : AgD S1 D := fun a j x y => (I1 a j (by omega)).trans (A a j x y)
    have hS1 : S1 0 10 = h := (I1 0 10 (by omega)).trans hS
    have hx : okX D h (s.getD i 0) := hok _ (getD_mem hi)
    have hle : ((s.take i).filter (nab D h)).length ≤ 24 := Nat.le_trans (List.length_filter_le _ _) (by rw [List.length_take]; omega)
    rw [f52]
    refine ⟨fun c => by omega, fun _ => ⟨by omega, ?_⟩⟩
    rw [f38, hL i hi]
    refine R_shapeOf A1 hS1 hh hx ⟨fun c x ex => ?_, fun c S2 e2 => ⟨by omega, fun S3 e3 x ex => ?_⟩⟩
    · rw [ex, w32_eq (by omega) (by omega)]
      have eT : (s.take (i + 1)).filter (nab D h) = (s.take i).filter (nab D h) := by
        rw [take_snoc hi, List.filter_append]
        have : nab D h (s.getD i 0) = false := by simp only [nab, c]; decide
        simp only [List.filter_cons, this]
        simp
      exact hP S1 ⟨I1, by rw [eT]; exact I2, by rw [eT]; exact I3⟩
    · rw [ex, w32_eq (by omega) (by omega)]
      have eT : (s.take (i + 1)).filter (nab D h) = (s.take i).filter (nab D h) ++ [s.getD i 0] := by
        rw [take_snoc hi, List.filter_append]
        have : nab D h (s.getD i 0) = true := by simp only [nab, c]; decide
        simp only [List.filter_cons, this]
        simp
      have e4 : S2 38 i = s.getD i 0 := by rw [e2, up_n _ (by omega), f38, hL i hi]
      refine hP S3 ⟨?_, ?_, ?_⟩
      · intro a j y
        rw [e3, up_n _ (by omega), e2, up_n _ (by omega)]
        exact I1 a j y
      · rw [e3, up_n _ (by omega), e2, up_s, I2, w32_eq (by omega) (by omega), eT]
        simp
      · rw [e3, up_s, e4, eT, getLastD_snoc]
  · intro P S1 hI
    obtain ⟨I1, I2, I3⟩ := hI
    show wX8_countBodies_12_b S1 s.length (fun b0 b1 => P (b0, b1)) k
    unfold wX8_countBodies_12_b
    have f52 : S1 0 52 = s.length := (I1 0 52 (by omega)).trans hn
    rw [f52]
    rw [List.take_length] at I2 I3
    exact ⟨fun _ => hk S1 I1 I2 I3, fun c => by omega⟩
  · intro a j y
    rw [e2, up_n _ (by omega), e1, up_n _ (by omega)]
  · rw [e2, up_n _ (by omega), e1, up_s]; simp
  · rw [e2, up_s]; simp
noncomputable def lkC (D : St) (h q : Int) : Nat → Int → Int
  | 0, _ => -1
  | n + 1, c => if c < 0 then -1 else if 0 ≤ mI D h c q then mI D h c q else lkC D h q n (D 19 (24 * h + c))
/-- one of the faces' METHODS -/
noncomputable def fcs (D : St) (h : Int) (L : List Int) : Int := match L with
  | [] => -1
  | c :: _ => match bdL D h L with
    | [x] => x
    | _ => c
noncomputable def fnd (D : St) (h t q : Int) : Int := if 0 ≤ lkC D h q 24 t then lkC D h q 24 t else fcs D h (caL D h t q)
theorem R_faces {S D : St} {h t q n : Int} {k' : St → Prop} (A : AgD S D) (hS : S 0 10 = h) (hh : half01 h) (C : okC D h n) (ht : 0 ≤ t ∧ t < n) (hq : okM D h q) (hk : ∀ S', offQ S S' → fsp D S' h (caL D h t q) → S' 0 53 = (bdL D h (caL D h t q)).length → S' 0 54 = (bdL D h (caL D h t q)).getLastD (-1) → k' S') : wX8_findSpecific S t q (fun S_3 => wX8_countBodies S_3 k') := by
  refine R_findSpecific A hS hh C ht hq (fun S1 g f => ?_)
  obtain ⟨f1, f2, f3, f4⟩ := f
  have hU := (C.2 t ht.1 ht.2).2
  have hn24 := C.1
  have hle := caN_len D h t q (D 20 (24 * h + t)).toNat
  have hle2 := spN_len D h (caL D h t q) (caL D h t q).length
  have hle3 : (caL D h t q).length ≤ 24 := by
    have := hU.2.1
    unfold caL
    omega
  refine R_countBodies (g.ag A) (g.hf hS) hh f3 f4 (by omega) ?_ (fun S2 g2 b1 b2 => hk S2 (g2.q g) ⟨f1.off (fun j => g2 37 j (by omega)), (g2 0 50 (by omega)).trans f2, f3.off (fun j => g2 38 j (by omega)), (g2 0 52 (by omega)).trans f4⟩ b1 b2)
  intro x hx
  exact caN_ok C ht _ (by have := hU.2.1; omega) x (spN_sub D h _ _ (Nat.le_refl _) x hx)
theorem R_lu_2 {S D : St} {h t q n : Int} {k : Int → St → Prop} (A : AgD S D) (hS : S 0 10 = h) (hh : half01 h) (C : okC D h n) (hq : okM D h q) (N : Nat) : ∀ c : Int, c = -13 ∨ (0 ≤ c ∧ c < n ∧ c < N) → (0 ≤ lkC D h q N c → k (lkC D h q N c) S) → (¬ 0 ≤ lkC D h q N c → wX8_findSpecific S t q (fun S_3 => wX8_countBodies S_3 (fun S_4 => (¬ S_4 0 50 = 0 → (¬ S_4 0 53 = 1 → k (S_4 37 0) S_4) ∧ (S_4 0 53 = 1 → k (S_4 0 54) S_4)) ∧ (S_4 0 50 = 0 → k (-1) S_4)))) → wX8_lookedUp_2 S t q c k := by
  have hn24 := C.1
  have hb01 : 0 ≤ h ∧ h ≤ 1 := by unfold half01 at hh; omega
  induction N with
  | zero =>
    intro c hc h1 h0
    unfold wX8_lookedUp_2
    refine wlp_exit (fun P => ?_)
    show wX8_lookedUp_2_b S t q c (fun b0 => P b0) k
    unfold wX8_lookedUp_2_b
    exact ⟨fun _ => h0 (by simp only [lkC]; decide), fun e => by omega⟩
  | succ N ih =>
    intro c hc h1 h0
    by_cases e : c = -13
    · unfold wX8_lookedUp_2
      refine wlp_exit (fun P => ?_)
      show wX8_lookedUp_2_b S t q c (fun b0 => P b0) k
      unfold wX8_lookedUp_2_b
      exact ⟨fun _ => h0 (by simp only [lkC]; rw [if_pos (by omega)]; decide), fun e2 => absurd e e2⟩
    · have hT := C.2 c (by omega) (by omega)
      have hP := hT.2.1
      simp only [lkC] at h1 h0
      rw [if_neg (by omega)] at h1 h0
      by_cases d : 0 ≤ mI D h c q
      · rw [if_pos d] at h1
        unfold wX8_lookedUp_2
        refine wlp_exit (fun P => ?_)
        show wX8_lookedUp_2_b S t q c (fun b0 => P b0) k
        unfold wX8_lookedUp_2_b
        exact ⟨fun e2 => absurd e2 e, fun _ => R_mI A hS hh hT.1 hq ⟨fun d2 => by omega, fun _ => h1 d⟩⟩
      · rw [if_neg d] at h1 h0
        have := ih (D 19 (24 * h + c)) (by omega) h1 h0
        unfold wX8_lookedUp_2 at this ⊢
        refine wlp_step (fun P hP2 => ?_) this
        show wX8_lookedUp_2_b S t q c (fun b0 => P b0) k
        unfold wX8_lookedUp_2_b
        refine ⟨fun e2 => absurd e2 e, fun _ => R_mI A hS hh hT.1 hq ⟨fun _ => R_t hS hh (by omega) ⟨by omega, fun x ex => ?_⟩, fun d2 => absurd d2 d⟩⟩
        rw [ex, A 19 _ (by decide) (by decide)]
        exact hP2
theorem R_lookedUp {S D : St} {h t q n : Int} {k : Int → St → Prop} (A : AgD S D) (hS : S 0 10 = h) (hh : half01 h) (C : okC D h n) (ht : 0 ≤ t ∧ t < n) (hq : okM D h q) (hk : ∀ S', offQ S S' → k (fnd D h t q) S') : wX8_lookedUp S t q k := by
  have hn24 := C.1
  unfold wX8_lookedUp wX8_lookedUp_0
  unfold fnd at hk
  refine R_lu_2 A hS hh C hq 24 t (Or.inr ⟨ht.1, ht.2, by omega⟩) (fun g => ?_) (fun g => ?_)
  · rw [if_pos g] at hk
    exact hk S (offQ.refl S)
  · rw [if_neg g] at hk
    refine R_faces A hS hh C ht hq (fun S1 o f b1 b2 => ?_)
    have hk1 := hk S1 o
    obtain ⟨f1, f2, f3, f4⟩ := f
    refine ⟨fun c => ⟨fun d => ?_, fun d => ?_⟩, fun c => ?_⟩
    · cases eL : caL D h t q with
      | nil => rw [eL] at f2; exact absurd f2 c
      | cons y ys =>
        have : S1 37 0 = y := by
          have := f1 0 (by rw [eL]; simp)
          rw [eL] at this
          simpa using this
        rw [this]
        rw [eL] at hk1 b1
        unfold fcs at hk1
        dsimp only at hk1
        split at hk1
        · rename_i x hx
          rw [hx] at b1
          exact absurd b1 d
        · exact hk1
    · rw [b1] at d
      obtain ⟨x, hx⟩ : ∃ x, bdL D h (caL D h t q) = [x] := List.length_eq_one_iff.mp (by omega)
      have : S1 0 54 = x := by rw [b2, hx]; rfl
      rw [this]
      cases eL : caL D h t q with
      | nil => rw [eL] at f2; exact absurd f2 c
      | cons y ys =>
        rw [eL] at hk1 hx
        unfold fcs at hk1
        dsimp only at hk1
        rw [hx] at hk1
        exact hk1
    · have : caL D h t q = [] := List.length_eq_zero_iff.mp (by omega)
      rw [this] at hk1
      exact hk1
def acc (D : St) (h x : Int) : Int := D 30 (120 * h + mem D h x)
def nst (D : St) (h t u : Int) : Prop := D 12 (24 * h + t) = D 12 (24 * h + u)
/-- MAY -/
def may (D : St) (h c n x r : Int) : Prop := acc D h x = 3 ∨ (acc D h x = 0 ∧ nst D h c (own D h x)) ∨ (¬ acc D h x = 0 ∧ sam D h c (own D h x)) ∨ (¬ acc D h x = 0 ∧ ¬ acc D h x = 1 ∧ und D h c (own D h x) ∧ (shp D h x = 1 ∨ ((und D h n c ∨ und D h c n) ∧ und D h r c)))
theorem R_mayHave {S D : St} {h c n x r : Int} {k : Int → Prop} (A : AgD S D) (hS : S 0 10 = h) (hh : half01 h) (hc : 0 ≤ c ∧ c < 24) (hn : 0 ≤ n ∧ n < 24) (hr : 0 ≤ r ∧ r < 24) (hx : okX D h x) (h1 : may D h c n x r → k 1) (h0 : ¬ may D h c n x r → k 0) : wX8_mayHave S c n x r k := by
  have hb01 : 0 ≤ h ∧ h ≤ 1 := by unfold half01 at hh; omega
  have hd := und_own hx
  unfold wX8_mayHave wX8_mayHave_0 wX8_mayHave_114
  refine R_ownerOf A hS hh hx (R_accessOf A hS hh hx ?_)
  show (¬ acc D h x = 3 → _) ∧ _
  have hd' : 0 ≤ D 28 (120 * h + mem D h x) ∧ D 28 (120 * h + mem D h x) < 24 := hd
  refine ⟨fun a3 => ⟨fun a0 => R_sam A hS hh hc hd' (fun s => ⟨fun e => absurd e (by decide), fun _ => h1 (Or.inr (Or.inr (Or.inl ⟨a0, s⟩)))⟩) (fun s => ⟨fun _ => ⟨fun a1 => h0 ?_, fun a1 => ?_⟩, fun e => absurd rfl e⟩), fun a0 => ?_⟩, fun a3 => h1 (Or.inl a3)⟩
  · rintro (g | g | g | g)
    · exact a3 g
    · exact a0 g.1
    · exact s g.2
    · exact g.2.1 a1
  · refine R_und A hS hh hc hd' (fun u => ⟨fun _ => R_shapeOf A hS hh hx ⟨fun e => h1 (Or.inr (Or.inr (Or.inr ⟨a0, a1, u, Or.inl e⟩))), fun e => ?_⟩, fun e => absurd e (by decide)⟩) (fun u => ⟨fun e => absurd rfl e, fun _ => h0 ?_⟩)
    · have hN : ¬ ((und D h n c ∨ und D h c n) ∧ und D h r c) → ¬ may D h c n x r := by
        rintro g0 (g | g | g | g)
        · exact a3 g
        · exact a0 g.1
        · exact s g.2
        · rcases g.2.2.2 with g | g
          · exact e g
          · exact g0 g
      have hY : und D h n c ∨ und D h c n → wX8_isUnder S r c (fun x_1 => (x_1 = 0 → k 0) ∧ (¬ x_1 = 0 → k 1)) := fun g => R_und A hS hh hr hc (fun f => ⟨fun c => absurd c (by decide), fun _ => h1 (Or.inr (Or.inr (Or.inr ⟨a0, a1, u, Or.inr ⟨g, f⟩⟩)))⟩) (fun f => ⟨fun _ => h0 (hN (fun z => f z.2)), fun c => absurd rfl c⟩)
      refine R_und A hS hh hn hc (fun u2 => ⟨fun _ => hY (Or.inl u2), fun e => absurd e (by decide)⟩) (fun u2 => ⟨fun e => absurd rfl e, fun _ => ?_⟩)
      exact R_und A hS hh hc hn (fun u3 => ⟨fun e => absurd e (by decide), fun _ => hY (Or.inr u3)⟩) (fun u3 => ⟨fun _ => h0 (hN (fun z => z.1.elim u2 u3)), fun e => absurd rfl e⟩)
    · rintro (g | g | g | g)
      · exact a3 g
      · exact a0 g.1
      · exact s g.2
      · exact u g.2.2.1
  · refine R_t hS hh hc ⟨by omega, R_t hS hh hd' ⟨by omega, ?_⟩⟩
    rw [A 12 _ (by decide) (by decide), A 12 _ (by decide) (by decide)]
    refine ⟨fun e => h0 ?_, fun e => h1 (Or.inr (Or.inl ⟨a0, e⟩))⟩
    rintro (g | g | g | g)
    · exact a3 g
    · exact e g.2
    · exact g.1 a0
    · exact g.1 a0
def isR (D : St) (h t u : Int) : Prop := ∃ i : Int, 0 ≤ i ∧ i < D 16 (24 * h + t) ∧ D 17 (5 * (24 * h + t) + i) = u
theorem R_isRef {S D : St} {h t u : Int} {k : Int → Prop} (A : AgD S D) (hS : S 0 10 = h) (hh : half01 h) (ht : 0 ≤ t ∧ t < 24) (hr : 0 ≤ D 16 (24 * h + t) ∧ D 16 (24 * h + t) ≤ 4) (h1 : isR D h t u → k 1) (h0 : ¬ isR D h t u → k 0) : wX8_isRef S t u k := by
  have hb01 : 0 ≤ h ∧ h ≤ 1 := by unfold half01 at hh; omega
  obtain ⟨N, hN⟩ : ∃ N : Nat, D 16 (24 * h + t) = N := ⟨(D 16 (24 * h + t)).toNat, by omega⟩
  unfold wX8_isRef wX8_isRef_0 wX8_isRef_5
  refine wlp_f0s N (fun i fl => (fl = 1 ∧ isR D h t u) ∨ (fl = 0 ∧ ∀ j : Int, 0 ≤ j → j < i → ¬ D 17 (5 * (24 * h + t) + j) = u)) ?_ ?_ (Or.inr ⟨rfl, fun j a b => by omega⟩)
  · intro P i fl hi hI hP
    show wX8_isRef_5_b S t u fl i (fun b0 b1 => P (b0, b1)) k
    unfold wX8_isRef_5_b wX8_isRef_43
    refine R_t hS hh ht ?_
    rw [A 16 _ (by decide) (by decide), hN]
    refine ⟨by omega, fun c => by omega, fun _ => ⟨fun e x ex => ?_, fun e => R_t hS hh ht ?_⟩⟩
    · rw [ex, w32_eq (by omega) (by omega)]
      rcases hI with g | g
      · exact hP 1 (Or.inl ⟨rfl, g.2⟩)
      · exact absurd g.1 e
    · rw [w32_eq (x := 5 * (24 * h + t)) (by omega) (by omega), w32_eq (by omega) (by omega), A 17 _ (by decide) (by decide)]
      refine ⟨by omega, fun d x ex => ?_, fun d x ex => ?_⟩
      · rw [ex, w32_eq (by omega) (by omega)]
        rcases hI with g | g
        · omega
        · refine hP 0 (Or.inr ⟨rfl, fun j j0 j1 => ?_⟩)
          by_cases hji : j = i
          · rw [hji]; exact d
          · exact g.2 j j0 (by omega)
      · rw [ex, w32_eq (by omega) (by omega)]
        exact hP 1 (Or.inl ⟨rfl, i, by omega, by omega, d⟩)
  · intro P fl hI
    show wX8_isRef_5_b S t u fl N (fun b0 b1 => P (b0, b1)) k
    unfold wX8_isRef_5_b
    refine R_t hS hh ht ?_
    rw [A 16 _ (by decide) (by decide), hN]
    refine ⟨by omega, fun _ => ?_, fun c => by omega⟩
    rcases hI with ⟨g1, g2⟩ | ⟨g1, g2⟩
    · rw [g1]; exact ⟨Or.inr rfl, h1 g2⟩
    · rw [g1]; exact ⟨Or.inl rfl, h0 (fun ⟨j, j0, j1, j2⟩ => g2 j j0 (by omega) j2)⟩
