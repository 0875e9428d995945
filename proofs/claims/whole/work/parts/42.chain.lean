/-! pure: chains of classes, who CAN replace whom -/
def rl (D : St) (h x y : Int) : Prop := 1 < acc D h y ∨ sam D h (own D h x) (own D h y)
noncomputable def rps (D : St) (h f : Int) : List Int → List Int
  | [] => []
  | x :: xs => @ite _ (x = f ∨ (0 ≤ x ∧ plain D h x ∧ (1 < acc D h f ∨ ∃ y, y ∈ rps D h f xs ∧ rl D h x y))) (Classical.propDecidable _) (x :: rps D h f xs) (rps D h f xs)
theorem rps_pos {D : St} {h f x : Int} {xs : List Int} (g : x = f ∨ (0 ≤ x ∧ plain D h x ∧ (1 < acc D h f ∨ ∃ y, y ∈ rps D h f xs ∧ rl D h x y))) : rps D h f (x :: xs) = x :: rps D h f xs := by
  rw [rps, if_pos g]
theorem rps_neg {D : St} {h f x : Int} {xs : List Int} (g : ¬ (x = f ∨ (0 ≤ x ∧ plain D h x ∧ (1 < acc D h f ∨ ∃ y, y ∈ rps D h f xs ∧ rl D h x y)))) : rps D h f (x :: xs) = rps D h f xs := by
  rw [rps, if_neg g]
noncomputable def ptl (D : St) (h f : Int) : List Int → List Int
  | [] => []
  | x :: xs => @ite _ (0 ≤ x ∧ plain D h x) (Classical.propDecidable _) (if x = f then [x] else x :: ptl D h f xs) (ptl D h f xs)
theorem ptl_end {D : St} {h f : Int} {xs : List Int} (g : 0 ≤ f ∧ plain D h f) : ptl D h f (f :: xs) = [f] := by
  rw [ptl, if_pos g, if_pos rfl]
theorem ptl_pos {D : St} {h f x : Int} {xs : List Int} (g : 0 ≤ x ∧ plain D h x) (e : ¬ x = f) : ptl D h f (x :: xs) = x :: ptl D h f xs := by
  rw [ptl, if_pos g, if_neg e]
theorem ptl_neg {D : St} {h f x : Int} {xs : List Int} (g : ¬ (0 ≤ x ∧ plain D h x)) : ptl D h f (x :: xs) = ptl D h f xs := by
  rw [ptl, if_neg g]
/-- f stands there once at most -/
def once (f : Int) : List Int → Prop
  | [] => True
  | x :: xs => (x = f → ¬ f ∈ xs) ∧ once f xs
theorem rps_none {D : St} {h f : Int} (w : ¬ 1 < acc D h f) (L : List Int) (g : ¬ f ∈ L) : rps D h f L = [] := by
  induction L with
  | nil => rw [rps]
  | cons x xs ih =>
    have e := ih (fun m => g (List.mem_cons_of_mem _ m))
    rw [rps_neg, e]
    rw [e]
    rintro (a | a)
    · exact g (by rw [a]; exact List.mem_cons_self)
    · rcases a.2.2 with b | ⟨y, b, _⟩
      · exact w b
      · exact absurd b (List.not_mem_nil)
theorem rps_ptl {D : St} {h f : Int} (w : ¬ 1 < acc D h f) (pf : 0 ≤ f ∧ plain D h f) (L : List Int) (m : f ∈ L) (o : once f L) : rps D h f L = rps D h f (ptl D h f L) := by
  induction L with
  | nil => exact absurd m (List.not_mem_nil)
  | cons x xs ih =>
    by_cases e : x = f
    · subst e
      rw [ptl_end pf, rps_pos (Or.inl rfl), rps_pos (Or.inl rfl), rps_none w xs (o.1 rfl), rps]
    · have mx : f ∈ xs := by
        rcases List.mem_cons.mp m with g | g
        · exact absurd g.symm e
        · exact g
      have ih' := ih mx o.2
      by_cases p : 0 ≤ x ∧ plain D h x
      · rw [ptl_pos p e]
        by_cases c : x = f ∨ (0 ≤ x ∧ plain D h x ∧ (1 < acc D h f ∨ ∃ y, y ∈ rps D h f xs ∧ rl D h x y))
        · rw [rps_pos c, rps_pos (by rw [← ih']; exact c), ih']
        · rw [rps_neg c, rps_neg (by rw [← ih']; exact c), ih']
      · rw [ptl_neg p, ← ih', rps_neg]
        rintro (a | a)
        · exact e a
        · exact p ⟨a.1, a.2.1⟩
theorem rps_wide {D : St} {h f : Int} (w : 1 < acc D h f) (pf : 0 ≤ f ∧ plain D h f) (L : List Int) : (rps D h f L).head? = (ptl D h f L).head? := by
  induction L with
  | nil => rw [rps, ptl]
  | cons x xs ih =>
    by_cases e : x = f
    · subst e
      rw [ptl_end pf, rps_pos (Or.inl rfl)]
      rfl
    · by_cases p : 0 ≤ x ∧ plain D h x
      · rw [ptl_pos p e, rps_pos (Or.inr ⟨p.1, p.2, Or.inl w⟩)]
        rfl
      · rw [ptl_neg p, rps_neg, ih]
        rintro (a | a)
        · exact e a
        · exact p ⟨a.1, a.2.1⟩
theorem ptl_all {D : St} {h f : Int} (L : List Int) : ∀ x ∈ ptl D h f L, x ∈ L ∧ 0 ≤ x ∧ plain D h x := by
  induction L with
  | nil => intro x hx; rw [ptl] at hx; exact absurd hx (List.not_mem_nil)
  | cons y ys ih =>
    intro x hx
    by_cases p : 0 ≤ y ∧ plain D h y
    · by_cases e : y = f
      · subst e
        rw [ptl_end p] at hx
        rw [List.mem_singleton.mp hx]
        exact ⟨List.mem_cons_self, p.1, p.2⟩
      · rw [ptl_pos p e] at hx
        rcases List.mem_cons.mp hx with g | g
        · rw [g]; exact ⟨List.mem_cons_self, p.1, p.2⟩
        · exact ⟨List.mem_cons_of_mem _ (ih x g).1, (ih x g).2⟩
    · rw [ptl_neg p] at hx
      exact ⟨List.mem_cons_of_mem _ (ih x hx).1, (ih x hx).2⟩
/-- f is the last, and nowhere else -/
theorem ptl_last {D : St} {h f : Int} (pf : 0 ≤ f ∧ plain D h f) (L : List Int) (m : f ∈ L) : ∃ l : Nat, (ptl D h f L).length = l + 1 ∧ ∀ i : Nat, i < l + 1 → ((ptl D h f L).getD i 0 = f ↔ i = l) := by
  induction L with
  | nil => exact absurd m (List.not_mem_nil)
  | cons x xs ih =>
    by_cases e : x = f
    · subst e
      rw [ptl_end pf]
      refine ⟨0, rfl, fun i hi => ?_⟩
      have : i = 0 := by omega
      subst this
      simp
    · have mx : f ∈ xs := by
        rcases List.mem_cons.mp m with g | g
        · exact absurd g.symm e
        · exact g
      obtain ⟨l, h1, h2⟩ := ih mx
      by_cases p : 0 ≤ x ∧ plain D h x
      · rw [ptl_pos p e]
        refine ⟨l + 1, by simp [h1], fun i hi => ?_⟩
        cases i with
        | zero => simp [e]
        | succ i =>
          have := h2 i (by omega)
          simp only [List.getD_cons_succ]
          rw [this]
          omega
      · rw [ptl_neg p]; exact ⟨l, h1, h2⟩
def rI (D : St) (h : Int) (M : List Int) (i j : Nat) : Prop := i < j ∧ j < M.length ∧ rl D h (M.getD i 0) (M.getD j 0)
def tI (D : St) (h : Int) (M : List Int) (i j : Nat) : Prop := Relation.TransGen (rI D h M) i j
theorem tI_lt {D : St} {h : Int} {M : List Int} {i j : Nat} (g : tI D h M i j) : i < j ∧ j < M.length := by
  induction g with
  | single r => exact ⟨r.1, r.2.1⟩
  | tail _ r ih => exact ⟨Nat.lt_trans ih.1 r.1, r.2.1⟩
theorem tI_iff {D : St} {h : Int} {M : List Int} {i j : Nat} (hj : i < j ∧ j < M.length) : tI D h M i j ↔ rl D h (M.getD i 0) (M.getD j 0) ∨ ∃ l : Nat, i < l ∧ l < j ∧ tI D h M l j ∧ tI D h M i l := by
  constructor
  · intro g
    cases g with
    | single r => exact Or.inl r.2.2
    | tail g r => exact Or.inr ⟨_, (tI_lt g).1, r.1, Relation.TransGen.single r, g⟩
  · rintro (g | ⟨l, _, _, g1, g2⟩)
    · exact Relation.TransGen.single ⟨hj.1, hj.2, g⟩
    · exact Relation.TransGen.trans g2 g1
theorem tI_head {D : St} {h : Int} {M : List Int} {i j : Nat} (g : tI D h M i j) : ∃ l, rI D h M i l ∧ (l = j ∨ tI D h M l j) := by
  induction g with
  | single r => exact ⟨_, r, Or.inl rfl⟩
  | tail _ r ih =>
    obtain ⟨l, h1, h2⟩ := ih
    rcases h2 with rfl | h2
    · exact ⟨l, h1, Or.inr (Relation.TransGen.single r)⟩
    · exact ⟨l, h1, Or.inr (Relation.TransGen.tail h2 r)⟩
theorem drop_cons {M : List Int} {i : Nat} (hi : i < M.length) : M.drop i = M.getD i 0 :: M.drop (i + 1) := by
  rw [List.drop_eq_getElem_cons hi]
  simp [hi]
theorem rps_tI {D : St} {h f : Int} {M : List Int} {l : Nat} (hl : M.length = l + 1) (hf : ∀ i : Nat, i < l + 1 → (M.getD i 0 = f ↔ i = l)) (hp : ∀ x ∈ M, 0 ≤ x ∧ plain D h x) (d : Nat) : ∀ i : Nat, i + d = l + 1 → (∀ y, y ∈ rps D h f (M.drop i) ↔ ∃ j : Nat, i ≤ j ∧ j < l + 1 ∧ y = M.getD j 0 ∧ (j = l ∨ tI D h M j l)) ∧ (i < l + 1 → ((i = l ∨ tI D h M i l) → rps D h f (M.drop i) = M.getD i 0 :: rps D h f (M.drop (i + 1))) ∧ (¬ (i = l ∨ tI D h M i l) → rps D h f (M.drop i) = rps D h f (M.drop (i + 1)))) := by
  induction d with
  | zero =>
    intro i hi
    refine ⟨fun y => ?_, fun c => by omega⟩
    rw [List.drop_eq_nil_of_le (by omega), rps]
    constructor
    · intro g; exact absurd g (List.not_mem_nil)
    · rintro ⟨j, h1, h2, _⟩; omega
  | succ d ih =>
    intro i hi
    obtain ⟨ih1, _⟩ := ih (i + 1) (by omega)
    have hiM : i < M.length := by omega
    have key : (M.getD i 0 = f ∨ (0 ≤ M.getD i 0 ∧ plain D h (M.getD i 0) ∧ (1 < acc D h f ∨ ∃ y, y ∈ rps D h f (M.drop (i + 1)) ∧ rl D h (M.getD i 0) y))) ↔ (i = l ∨ tI D h M i l) := by
      constructor
      · rintro (a | ⟨_, _, a | ⟨y, a, b⟩⟩)
        · exact Or.inl ((hf i (by omega)).mp a)
        · by_cases c : i = l
          · exact Or.inl c
          · refine Or.inr (Relation.TransGen.single ⟨by omega, by omega, Or.inl ?_⟩)
            rw [(hf l (by omega)).mpr rfl]; exact a
        · obtain ⟨j, h1, h2, h3, h4⟩ := (ih1 y).mp a
          have r : rI D h M i j := ⟨by omega, by omega, by rw [← h3]; exact b⟩
          rcases h4 with h4 | h4
          · subst h4; exact Or.inr (Relation.TransGen.single r)
          · exact Or.inr (Relation.TransGen.trans (Relation.TransGen.single r) h4)
      · rintro (a | a)
        · exact Or.inl ((hf i (by omega)).mpr a)
        · obtain ⟨j, r, h4⟩ := tI_head a
          have hx := hp _ (getD_mem hiM)
          refine Or.inr ⟨hx.1, hx.2, Or.inr ⟨M.getD j 0, (ih1 _).mpr ⟨j, by have := r.1; omega, by have := r.2.1; omega, rfl, h4⟩, r.2.2⟩⟩
    rw [drop_cons hiM]
    have P1 : (i = l ∨ tI D h M i l) → rps D h f (M.getD i 0 :: M.drop (i + 1)) = M.getD i 0 :: rps D h f (M.drop (i + 1)) := fun c => rps_pos (key.mpr c)
    have P0 : ¬ (i = l ∨ tI D h M i l) → rps D h f (M.getD i 0 :: M.drop (i + 1)) = rps D h f (M.drop (i + 1)) := fun c => rps_neg (fun z => c (key.mp z))
    refine ⟨fun y => ?_, fun _ => ⟨P1, P0⟩⟩
    by_cases c : i = l ∨ tI D h M i l
    · rw [P1 c, List.mem_cons, ih1 y]
      constructor
      · rintro (g | ⟨j, h1, h2, h3⟩)
        · exact ⟨i, Nat.le_refl _, by omega, g, c⟩
        · exact ⟨j, by omega, h2, h3⟩
      · rintro ⟨j, h1, h2, h3, h4⟩
        by_cases e : j = i
        · subst e; exact Or.inl h3
        · exact Or.inr ⟨j, by omega, h2, h3, h4⟩
    · rw [P0 c, ih1 y]
      constructor
      · rintro ⟨j, h1, h2, h3⟩
        exact ⟨j, by omega, h2, h3⟩
      · rintro ⟨j, h1, h2, h3, h4⟩
        by_cases e : j = i
        · subst e; exact absurd h4 c
        · exact ⟨j, by omega, h2, h3, h4⟩
def offK (S S' : St) : Prop := ∀ a j, ¬ a = 40 → S' a j = S a j
/-- the pair (i, j) stands right in can -/
def cnR (D S : St) (h : Int) (M : List Int) (i j : Nat) : Prop := (S 40 (24 * (i : Int) + j) = 1 ∧ tI D h M i j) ∨ (S 40 (24 * (i : Int) + j) = 0 ∧ ¬ tI D h M i j)
theorem R_fc_79 {S D : St} {h : Int} {M : List Int} {i j : Nat} {far s0 : Int} {P2 P12 : Int → St → Prop} {k : St → Prop} (hl : M.length ≤ 24) (hij : i < j ∧ j < M.length) (hc : ∀ a b : Nat, a < b → b < M.length → b - a < j - i → cnR D S h M a b) (hs : (s0 = 1 ∧ rl D h (M.getD i 0) (M.getD j 0)) ∨ (s0 = 0 ∧ ¬ rl D h (M.getD i 0) (M.getD j 0)))
    (hk : ∀ S', S' = up S 40 (24 * (i : Int) + j) 1 → tI D h M i j → P12 ((i : Int) + 1) S') (hk0 : ∀ S', S' = up S 40 (24 * (i : Int) + j) 0 → ¬ tI D h M i j → P12 ((i : Int) + 1) S') : wX8_findCan_72 S far i j s0 P2 P12 k := by
  have hfin : ∀ fl : Int, (fl = 1 ∧ tI D h M i j) ∨ (fl = 0 ∧ ¬ tI D h M i j) → wX8_findCan_133 S far i j fl P2 P12 k := by
    intro fl g
    unfold wX8_findCan_133
    rw [w32_eq (x := 24 * (i : Int)) (by omega) (by omega), w32_eq (x := 24 * (i : Int) + j) (by omega) (by omega)]
    refine ⟨by omega, by omega, fun S' e x ex => ?_⟩
    rw [ex, w32_eq (by omega) (by omega)]
    rcases g with ⟨g1, g2⟩ | ⟨g1, g2⟩
    · exact hk S' (by rw [e, g1]) g2
    · exact hk0 S' (by rw [e, g1]) g2
  unfold wX8_findCan_72
  intro x ex
  rw [w32_eq (by omega) (by omega)] at ex
  subst ex
  unfold wX8_findCan_79
  refine wlp_fs (lo := (i : Int) + 1) (j - (i + 1)) (fun d fl => (fl = 1 ∧ tI D h M i j) ∨ (fl = 0 ∧ ¬ rl D h (M.getD i 0) (M.getD j 0) ∧ ∀ l : Nat, i < l → l < i + 1 + d → ¬ (tI D h M l j ∧ tI D h M i l))) ?_ ?_ ?_
  · intro P d fl hd hI hP
    show wX8_findCan_79_b S far i j fl ((i : Int) + 1 + d) P2 P12 (fun b0 b1 => P (b0, b1)) k
    unfold wX8_findCan_79_b
    refine ⟨fun c => by omega, fun _ => ⟨fun e => ?_, fun e => ?_⟩⟩
    · rcases hI with g | g
      · exact hfin fl (Or.inl g)
      · exact absurd g.1 e
    · rcases hI with g | ⟨_, g1, g2⟩
      · omega
      · have eL : (i : Int) + 1 + d = ((i + 1 + d : Nat) : Int) := by omega
        rw [eL]
        rw [w32_eq (x := 24 * ((i + 1 + d : Nat) : Int)) (by omega) (by omega), w32_eq (x := 24 * ((i + 1 + d : Nat) : Int) + j) (by omega) (by omega), w32_eq (x := 24 * (i : Int)) (by omega) (by omega), w32_eq (x := 24 * (i : Int) + ((i + 1 + d : Nat) : Int)) (by omega) (by omega), w32_eq (x := ((i + 1 + d : Nat) : Int) + 1) (by omega) (by omega)]
        have c1 := hc (i + 1 + d) j (by omega) (by omega) (by omega)
        have c2 := hc i (i + 1 + d) (by omega) (by omega) (by omega)
        have hno : ¬ (tI D h M (i + 1 + d) j ∧ tI D h M i (i + 1 + d)) → P (0, ((i + 1 + d : Nat) : Int) + 1) := by
          intro z
          rw [← eL]
          refine hP 0 (Or.inr ⟨rfl, g1, fun l l0 l1 => ?_⟩)
          by_cases el : l = i + 1 + d
          · rw [el]; exact z
          · exact g2 l l0 (by omega)
        refine ⟨by omega, fun z x ex => ?_, fun z => ⟨by omega, fun z2 x ex => ?_, fun z2 x ex => ?_⟩⟩
        · rw [ex]
          rcases c1 with c1 | c1
          · omega
          · exact hno (fun y => c1.2 y.1)
        · rw [ex]
          rcases c2 with c2 | c2
          · omega
          · exact hno (fun y => c2.2 y.2)
        · rw [ex, ← eL]
          rcases c1 with c1 | c1
          · rcases c2 with c2 | c2
            · exact hP 1 (Or.inl ⟨rfl, (tI_iff hij).mpr (Or.inr ⟨i + 1 + d, by omega, by omega, c1.2, c2.2⟩)⟩)
            · exact absurd c2.1 z2
          · exact absurd c1.1 z
  · intro P fl hI
    show wX8_findCan_79_b S far i j fl ((i : Int) + 1 + ((j - (i + 1) : Nat) : Int)) P2 P12 (fun b0 b1 => P (b0, b1)) k
    unfold wX8_findCan_79_b
    refine ⟨fun _ => hfin fl ?_, fun c => by omega⟩
    rcases hI with g | ⟨g0, g1, g2⟩
    · exact Or.inl g
    · refine Or.inr ⟨g0, fun z => ?_⟩
      rcases (tI_iff hij).mp z with y | ⟨l, l0, l1, y1, y2⟩
      · exact g1 y
      · exact g2 l l0 (by omega) ⟨y1, y2⟩
  · rcases hs with g | g
    · exact Or.inl ⟨g.1, (tI_iff hij).mpr (Or.inl g.2)⟩
    · exact Or.inr ⟨g.1, g.2, fun l l0 l1 => by omega⟩
theorem R_findCan {S D : St} {h : Int} {M : List Int} {k : St → Prop} (A : AgD S D) (hS : S 0 10 = h) (hh : half01 h) (hL : isL S 39 M) (hn : S 0 56 = M.length) (hl : M.length ≤ 24) (hok : ∀ x ∈ M, okX D h x) (hk : ∀ S', offK S S' → (∀ i j : Nat, i < j → j < M.length → cnR D S' h M i j) → k S') : wX8_findCan S k := by
  unfold wX8_findCan wX8_findCan_0 wX8_findCan_2
  refine wlp_fr (lo := 1) (M.length - 1) (fun d S1 => offK S S1 ∧ ∀ i j : Nat, i < j → j < M.length → j - i < 1 + d → cnR D S1 h M i j) ?_ ?_ ⟨fun _ _ _ => rfl, fun i j a b c => by omega⟩
  · intro P d S1 hd hI hP
    obtain ⟨I1, I2⟩ := hI
    show wX8_findCan_2_b S1 (1 + d) (fun b0 b1 => P (b0, b1)) k
    unfold wX8_findCan_2_b
    have f56 : S1 0 56 = M.length := (I1 0 56 (by decide)).trans hn
    rw [f56]
    refine ⟨fun c => by omega, fun _ => ?_⟩
    unfold wX8_findCan_12
    refine wlp_for (M.length - (1 + d)) (fun i S2 => offK S S2 ∧ ∀ a b : Nat, a < b → b < M.length → (b - a < 1 + d ∨ (b - a = 1 + d ∧ a < i)) → cnR D S2 h M a b) ?_ ?_ ⟨I1, fun a b x y z => I2 a b x y (by omega)⟩
    · intro P' i S2 hi hI2 hP'
      obtain ⟨J1, J2⟩ := hI2
      show wX8_findCan_12_b S2 (1 + d) i (fun b0 b1 => P (b0, b1)) (fun b0 b1 => P' (b0, b1)) k
      unfold wX8_findCan_12_b
      have g56 : S2 0 56 = M.length := (J1 0 56 (by decide)).trans hn
      have g39 : ∀ j, S2 39 j = S 39 j := fun j => J1 39 j (by decide)
      have A2 : AgD S2 D := fun a j x y => (J1 a j (by omega)).trans (A a j x y)
      have hS2 : S2 0 10 = h := (J1 0 10 (by decide)).trans hS
      rw [g56, w32_eq (x := (i : Int) + (1 + d)) (by omega) (by omega)]
      refine ⟨fun c => by omega, fun _ x ex => ?_⟩
      have ex : x = ((i + (1 + d) : Nat) : Int) := by omega
      subst ex
      have hjM : i + (1 + d) < M.length := by omega
      have hiM : i < M.length := by omega
      rw [g39, g39, hL _ hjM, hL _ hiM]
      have oi := hok _ (getD_mem hiM)
      have oj := hok _ (getD_mem hjM)
      have fin : ∀ s0 : Int, (s0 = 1 ∧ rl D h (M.getD i 0) (M.getD (i + (1 + d)) 0)) ∨ (s0 = 0 ∧ ¬ rl D h (M.getD i 0) (M.getD (i + (1 + d)) 0)) → wX8_findCan_72 S2 (1 + d) i ((i + (1 + d) : Nat) : Int) s0 (fun b0 b1 => P (b0, b1)) (fun b0 b1 => P' (b0, b1)) k := by
        intro s0 hs0
        have sep : ∀ a b : Nat, a < b → b < M.length → ¬ (a = i ∧ b = i + (1 + d)) → ¬ (24 * (a : Int) + b = 24 * (i : Int) + ((i + (1 + d) : Nat) : Int)) := by
          intro a b x y z e
          omega
        have stp : ∀ (v : Int), ((v = 1 ∧ tI D h M i (i + (1 + d))) ∨ (v = 0 ∧ ¬ tI D h M i (i + (1 + d)))) → ∀ S', S' = up S2 40 (24 * (i : Int) + ((i + (1 + d) : Nat) : Int)) v → P' ((i : Int) + 1, S') := by
          intro v hv S' eS'
          refine hP' S' ⟨fun a j x => by rw [eS', up_n _ (fun z => x z.1)]; exact J1 a j x, fun a b x y z => ?_⟩
          by_cases e : a = i ∧ b = i + (1 + d)
          · obtain ⟨e1, e2⟩ := e
            subst e1; subst e2
            unfold cnR
            rw [eS', up_s]
            exact hv
          · have := J2 a b x y (by omega)
            unfold cnR at this ⊢
            rw [eS', up_n _ (fun w => sep a b x y e w.2)]
            exact this
        exact R_fc_79 (i := i) (j := i + (1 + d)) hl (by omega) (fun a b x y z => J2 a b x y (by omega)) hs0 (fun S' e g => stp 1 (Or.inl ⟨rfl, g⟩) S' e) (fun S' e g => stp 0 (Or.inr ⟨rfl, g⟩) S' e)
      refine ⟨by omega, R_accessOf A2 hS2 hh oj ⟨fun c => ?_, fun c => ⟨by omega, R_ownerOf A2 hS2 hh oi ⟨by omega, R_ownerOf A2 hS2 hh oj (R_sam A2 hS2 hh (und_own oi) (und_own oj) (fun g => ⟨fun e => absurd e (by decide), fun _ => ?_⟩) (fun g => ⟨fun _ => ?_, fun e => absurd rfl e⟩))⟩⟩⟩⟩
      · unfold wX8_findCan_67
        exact fin 1 (Or.inl ⟨rfl, Or.inl c⟩)
      · unfold wX8_findCan_67
        exact fin 1 (Or.inl ⟨rfl, Or.inr g⟩)
      · refine fin 0 (Or.inr ⟨rfl, ?_⟩)
        rintro (z | z)
        · have z' : 1 < D 30 (120 * h + mem D h (M.getD (i + (1 + d)) 0)) := z
          omega
        · exact g z
    · intro P' S2 hI2
      obtain ⟨J1, J2⟩ := hI2
      show wX8_findCan_12_b S2 (1 + d) ((M.length - (1 + d) : Nat) : Int) (fun b0 b1 => P (b0, b1)) (fun b0 b1 => P' (b0, b1)) k
      unfold wX8_findCan_12_b
      have g56 : S2 0 56 = M.length := (J1 0 56 (by decide)).trans hn
      rw [g56, w32_eq (x := ((M.length - (1 + d) : Nat) : Int) + (1 + d)) (by omega) (by omega)]
      refine ⟨fun _ x ex => ?_, fun c => by omega⟩
      rw [ex, w32_eq (by omega) (by omega)]
      exact hP S2 ⟨J1, fun a b x y z => J2 a b x y (by omega)⟩
  · intro P S1 hI
    obtain ⟨I1, I2⟩ := hI
    show wX8_findCan_2_b S1 (1 + ((M.length - 1 : Nat) : Int)) (fun b0 b1 => P (b0, b1)) k
    unfold wX8_findCan_2_b
    have f56 : S1 0 56 = M.length := (I1 0 56 (by decide)).trans hn
    rw [f56]
    exact ⟨fun _ => hk S1 I1 (fun i j x y => I2 i j x y (by omega)), fun c => by omega⟩
