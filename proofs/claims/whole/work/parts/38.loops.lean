/-! pure: loops that count, lists in rows -/
theorem wlp_for {α : Type} {B : (Int × α → Prop) → Int × α → Prop} (n : Nat) (I : Nat → α → Prop) (hs : ∀ (P : Int × α → Prop) (i : Nat) (s : α), i < n → I i s → (∀ s', I (i + 1) s' → P ((i : Int) + 1, s')) → B P ((i : Int), s)) (he : ∀ (P : Int × α → Prop) (s : α), I n s → B P ((n : Int), s)) {s : α} (h0 : I 0 s) : wlp B ((0 : Int), s) := by
  refine wlp_of (fun a => ∃ i : Nat, i ≤ n ∧ a.1 = (i : Int) ∧ I i a.2) (fun a => n - a.1.toNat) ?_ ⟨0, Nat.zero_le _, rfl, h0⟩
  intro P a ⟨i, hi, ha, hI⟩ hP
  obtain ⟨x, s⟩ := a
  dsimp only at ha hI hP
  subst ha
  by_cases c : i < n
  · refine hs P i s c hI (fun s' hI' => hP ((i : Int) + 1, s') ⟨i + 1, c, by simp, hI'⟩ ?_)
    dsimp only
    omega
  · have e : i = n := by omega
    subst e
    exact he P s hI
theorem wlp_for1 {B : (Int → Prop) → Int → Prop} (n : Nat) (I : Nat → Prop) (hs : ∀ (P : Int → Prop) (i : Nat), i < n → I i → (I (i + 1) → P ((i : Int) + 1)) → B P (i : Int)) (he : ∀ (P : Int → Prop), I n → B P (n : Int)) (h0 : I 0) : wlp B (0 : Int) := by
  refine wlp_of (fun a => ∃ i : Nat, i ≤ n ∧ a = (i : Int) ∧ I i) (fun a => n - a.toNat) ?_ ⟨0, Nat.zero_le _, rfl, h0⟩
  intro P a ⟨i, hi, ha, hI⟩ hP
  subst ha
  by_cases c : i < n
  · refine hs P i c hI (fun hI' => hP ((i : Int) + 1) ⟨i + 1, c, by simp, hI'⟩ ?_)
    omega
  · have e : i = n := by omega
    subst e
    exact he P hI
/-- the same, from lo on -/
theorem wlp_fr1 {B : (Int → Prop) → Int → Prop} {lo : Int} (n : Nat) (I : Nat → Prop) (hs : ∀ (P : Int → Prop) (i : Nat), i < n → I i → (I (i + 1) → P (lo + i + 1)) → B P (lo + i)) (he : ∀ (P : Int → Prop), I n → B P (lo + n)) (h0 : I 0) : wlp B lo := by
  refine wlp_of (fun a => ∃ i : Nat, i ≤ n ∧ a = lo + i ∧ I i) (fun a => n - (a - lo).toNat) ?_ ⟨0, Nat.zero_le _, by simp, h0⟩
  intro P a ⟨i, hi, ha, hI⟩ hP
  subst ha
  by_cases c : i < n
  · refine hs P i c hI (fun hI' => hP (lo + i + 1) ⟨i + 1, c, by omega, hI'⟩ ?_)
    omega
  · have e : i = n := by omega
    subst e
    exact he P hI
theorem wlp_fr {α : Type} {B : (Int × α → Prop) → Int × α → Prop} {lo : Int} (n : Nat) (I : Nat → α → Prop) (hs : ∀ (P : Int × α → Prop) (i : Nat) (s : α), i < n → I i s → (∀ s', I (i + 1) s' → P (lo + i + 1, s')) → B P (lo + i, s)) (he : ∀ (P : Int × α → Prop) (s : α), I n s → B P (lo + n, s)) {s : α} (h0 : I 0 s) : wlp B (lo, s) := by
  refine wlp_of (fun a => ∃ i : Nat, i ≤ n ∧ a.1 = lo + i ∧ I i a.2) (fun a => n - (a.1 - lo).toNat) ?_ ⟨0, Nat.zero_le _, by simp, h0⟩
  intro P a ⟨i, hi, ha, hI⟩ hP
  obtain ⟨x, s⟩ := a
  dsimp only at ha hI hP
  subst ha
  by_cases c : i < n
  · refine hs P i s c hI (fun s' hI' => hP (lo + i + 1, s') ⟨i + 1, c, by dsimp only; omega, hI'⟩ ?_)
    dsimp only
    omega
  · have e : i = n := by omega
    subst e
    exact he P s hI
/-- the count stands second -/
theorem wlp_fs {α : Type} {B : (α × Int → Prop) → α × Int → Prop} {lo : Int} (n : Nat) (I : Nat → α → Prop) (hs : ∀ (P : α × Int → Prop) (i : Nat) (s : α), i < n → I i s → (∀ s', I (i + 1) s' → P (s', lo + i + 1)) → B P (s, lo + i)) (he : ∀ (P : α × Int → Prop) (s : α), I n s → B P (s, lo + n)) {s : α} (h0 : I 0 s) : wlp B (s, lo) := by
  refine wlp_of (fun a => ∃ i : Nat, i ≤ n ∧ a.2 = lo + i ∧ I i a.1) (fun a => n - (a.2 - lo).toNat) ?_ ⟨0, Nat.zero_le _, by simp, h0⟩
  intro P a ⟨i, hi, ha, hI⟩ hP
  obtain ⟨s, x⟩ := a
  dsimp only at ha hI hP
  subst ha
  by_cases c : i < n
  · refine hs P i s c hI (fun s' hI' => hP (s', lo + i + 1) ⟨i + 1, c, by dsimp only; omega, hI'⟩ ?_)
    dsimp only
    omega
  · have e : i = n := by omega
    subst e
    exact he P s hI
/-- one round more, none -/
theorem wlp_step {α : Type} {B : (α → Prop) → α → Prop} {a a' : α} (h : ∀ P : α → Prop, P a' → B P a) (g : wlp B a') : wlp B a := by
  obtain ⟨n, hn⟩ := g
  exact ⟨n + 1, h _ hn⟩
theorem wlp_exit {α : Type} {B : (α → Prop) → α → Prop} {a : α} (h : ∀ P : α → Prop, B P a) : wlp B a := ⟨1, h _⟩
/-- cell c holds the list L -/
def isL (S : St) (c : Int) (L : List Int) : Prop := ∀ i : Nat, i < L.length → S c i = L.getD i 0
theorem isL.nil {S : St} {c : Int} : isL S c [] := fun i hi => absurd hi (Nat.not_lt_zero _)
theorem isL.snoc {S : St} {c v : Int} {L : List Int} (h : isL S c L) : isL (up S c L.length v) c (L ++ [v]) := by
  intro i hi
  rw [List.length_append, List.length_singleton] at hi
  by_cases e : i = L.length
  · subst e
    rw [up_s]
    simp
  · rw [up_n S (by omega), h i (by omega)]
    simp [List.getElem?_append_left (show i < L.length by omega)]
theorem isL.off {S S' : St} {c : Int} {L : List Int} (h : isL S c L) (g : ∀ i : Int, S' c i = S c i) : isL S' c L := fun i hi => (g i).trans (h i hi)
theorem getD_mem {L : List Int} {i : Nat} (h : i < L.length) : L.getD i 0 ∈ L := by
  rw [List.getD_eq_getElem?_getD, List.getElem?_eq_getElem h]
  exact List.getElem_mem h
theorem wlp_f0s {α : Type} {B : (α × Int → Prop) → α × Int → Prop} (n : Nat) (I : Nat → α → Prop) (hs : ∀ (P : α × Int → Prop) (i : Nat) (s : α), i < n → I i s → (∀ s', I (i + 1) s' → P (s', (i : Int) + 1)) → B P (s, (i : Int))) (he : ∀ (P : α × Int → Prop) (s : α), I n s → B P (s, (n : Int))) {s : α} (h0 : I 0 s) : wlp B (s, 0) := by
  refine wlp_fs (lo := 0) n I (fun P i s hi hI hP => ?_) (fun P s hI => ?_) h0
  · rw [Int.zero_add] at hP ⊢
    exact hs P i s hi hI hP
  · rw [Int.zero_add]
    exact he P s hI
