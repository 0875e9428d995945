/-! pure: tokens: what the reference reads next -/
def isLt (c : Int) : Prop := (97 ≤ c ∧ c ≤ 122) ∨ (65 ≤ c ∧ c ≤ 90)
def isDg (c : Int) : Prop := 48 ≤ c ∧ c ≤ 57
def isSg (c : Int) : Prop := c = 59 ∨ c = 44 ∨ c = 58 ∨ c = 123 ∨ c = 125 ∨ c = 40 ∨ c = 41 ∨ c = 60 ∨ c = 62
def isBl (c : Int) : Prop := c = 32 ∨ c = 10
/-- bytes as one number -/
def vaN (T : Int → Int) (q : Int) : Nat → Int
  | 0 => 0
  | k + 1 => or64 (shl64 (vaN T q k) 8) (T (q + k))
/-- a word's number, as the reference counts -/
def wsN (v : Int) : Nat → Int
  | 0 => 2
  | i + 1 => if wsN v i = 2 then (if wv.getD i 0 = v then 10 + (i : Int) else 2) else wsN v i
/-- the token behind p: its sort, value, place, and where it ends -/
def Tok (T : Int → Int) (n p s v q e : Int) : Prop := p ≤ q ∧ q ≤ n ∧ (∀ j, p ≤ j → j < q → isBl (T j)) ∧
  ((q = n ∧ s = 0 ∧ e = q) ∨
   (q < n ∧ isLt (T q) ∧ (q < e ∧ e ≤ n) ∧ (∀ j, q ≤ j → j < e → isLt (T j) ∨ isDg (T j)) ∧ (e < n → ¬ (isLt (T e) ∨ isDg (T e))) ∧ s = (if 8 < e - q then 1 else wsN (vaN T q (e - q).toNat) 14) ∧ v = vaN T q (e - q).toNat) ∨
   (q < n ∧ isDg (T q) ∧ e = q + 1 ∧ s = 3 ∧ v = T q - 48) ∨
   (q < n ∧ isSg (T q) ∧ e = q + 1 ∧ s = T q) ∨
   (q < n ∧ ¬ isBl (T q) ∧ ¬ isLt (T q) ∧ ¬ isDg (T q) ∧ ¬ isSg (T q) ∧ e = q + 1 ∧ s = 1))
theorem wsN_rng (v : Int) (i : Nat) : wsN v i = 2 ∨ (10 ≤ wsN v i ∧ wsN v i < 10 + (i : Int)) := by
  induction i with
  | zero => exact Or.inl rfl
  | succ i ih =>
    simp only [wsN]
    split
    · split
      · exact Or.inr (by omega)
      · exact Or.inl rfl
    · rcases ih with g | g
      · rename_i c; exact absurd g c
      · exact Or.inr (by omega)
theorem run_for {B : (Int × St → Prop) → (St → Prop) → Int × St → Prop} (n : Nat) (I : Nat → St → Prop) (hs : ∀ (i : Nat) (S : St), i < n → I i S → (∃ S', I (i + 1) S' ∧ ∀ (P : Int × St → Prop) (k : St → Prop), P ((i : Int) + 1, S') → B P k ((i : Int), S)) ∨ (I n S ∧ ∀ (P : Int × St → Prop) (k : St → Prop), k S → B P k ((i : Int), S))) (he : ∀ (S : St), I n S → ∀ (P : Int × St → Prop) (k : St → Prop), k S → B P k ((n : Int), S)) {S : St} (h0 : I 0 S) : ∃ S', I n S' ∧ ∀ k : St → Prop, k S' → wlp (fun (P : Int × St → Prop) (a : Int × St) => B P k a) ((0 : Int), S) := by
  have key : ∀ (d i : Nat) (S : St), i + d = n → I i S → ∃ S', I n S' ∧ ∀ k : St → Prop, k S' → wlp (fun (P : Int × St → Prop) (a : Int × St) => B P k a) ((i : Int), S) := by
    intro d
    induction d with
    | zero =>
      intro i S hi hI
      have e : i = n := by omega
      subst e
      exact ⟨S, hI, fun k hk => wlp_exit (fun P => he S hI P k hk)⟩
    | succ d ih =>
      intro i S hi hI
      rcases hs i S (by omega) hI with ⟨S1, h1, h2⟩ | ⟨h1, h2⟩
      · obtain ⟨S', h3, h4⟩ := ih (i + 1) S1 (by omega) h1
        refine ⟨S', h3, fun k hk => ?_⟩
        have := h4 k hk
        exact wlp_step (a' := ((i : Int) + 1, S1)) (fun P hP => h2 P k hP) (by simpa using this)
      · exact ⟨S, h1, fun k hk => wlp_exit (fun P => h2 P k hk)⟩
  exact key n 0 S (by omega) h0
/-- off the token's own fields nothing has changed -/
def offN (S S' : St) : Prop := ∀ a j, ¬ (a = 0 ∧ 4 ≤ j ∧ j ≤ 7) → S' a j = S a j
theorem offN.refl (S : St) : offN S S := fun _ _ _ => rfl
theorem offN.up {S S1 : St} {j v : Int} (h : offN S S1) (h4 : 4 ≤ j) (h7 : j ≤ 7) : offN S (up S1 0 j v) := fun a i x => by rw [up_n S1 (by omega)]; exact h a i x
section Next
variable {S : St} {n : Int}
theorem R_isLt {p : Int} {k : Int → Prop} (hn : S 0 1 = n) (h4 : n ≤ 4000) (p0 : 0 ≤ p) (h1 : p < n ∧ isLt (S 1 p) → k 1) (h0 : ¬ (p < n ∧ isLt (S 1 p)) → k 0) : wX8_isLetter S p k := by
  unfold wX8_isLetter wX8_isLetter_0 wX8_isLetter_30
  rw [hn]
  refine ⟨fun c => h0 (fun g => by omega), fun c => ⟨by omega, fun c1 => ⟨by omega, fun c2 => h0 (fun g => by have := g.2; unfold isLt at this; omega), fun c2 => ⟨by omega, fun c3 => h0 (fun g => by have := g.2; unfold isLt at this; omega), fun c3 => h1 ⟨c, Or.inr ⟨c2, c3⟩⟩⟩⟩, fun c1 => ⟨by omega, fun c2 => h1 ⟨c, Or.inl ⟨c1, c2⟩⟩, fun c2 => ⟨by omega, fun c3 => by omega, fun c3 => ⟨by omega, fun c4 => h0 (fun g => by have := g.2; unfold isLt at this; omega), fun c4 => by omega⟩⟩⟩⟩⟩
theorem R_isDg {p : Int} {k : Int → Prop} (hn : S 0 1 = n) (h4 : n ≤ 4000) (p0 : 0 ≤ p) (h1 : p < n ∧ isDg (S 1 p) → k 1) (h0 : ¬ (p < n ∧ isDg (S 1 p)) → k 0) : wX8_isFigure S p k := by
  unfold wX8_isFigure wX8_isFigure_0
  rw [hn]
  exact ⟨fun c => h0 (fun g => by omega), fun c => ⟨by omega, fun c1 => h0 (fun g => by have := g.2; unfold isDg at this; omega), fun c1 => ⟨by omega, fun c2 => h0 (fun g => by have := g.2; unfold isDg at this; omega), fun c2 => h1 ⟨c, c1, c2⟩⟩⟩⟩
theorem R_skip {q : Int} (hn : S 0 1 = n) (h4 : n ≤ 4000) (hq : q ≤ n) (hq2 : q < n → ¬ isBl (S 1 q)) (d : Nat) : ∀ S1 : St, 0 ≤ S1 0 4 → S1 0 4 + d = q → offN S S1 → (∀ j, ¬ j = 4 → S1 0 j = S 0 j) → (∀ j, S1 0 4 ≤ j → j < q → isBl (S 1 j)) → ∃ S2, S2 0 4 = q ∧ offN S S2 ∧ (∀ j, ¬ j = 4 → S2 0 j = S 0 j) ∧ ∀ k, wX8_next_52 S2 k → wX8_next S1 k := by
  induction d with
  | zero =>
    intro S1 h0 h1 o1 o2 hb
    refine ⟨S1, by omega, o1, o2, fun k hk => ?_⟩
    unfold wX8_next wX8_next_0
    refine wlp_exit (fun P => ?_)
    show wX8_next_0_b S1 (fun b0 => P b0) k
    unfold wX8_next_0_b
    rw [o2 1 (by decide), hn, o1 1 _ (by omega)]
    have e : S1 0 4 = q := by omega
    rw [e]
    refine ⟨fun _ => hk, fun c => ⟨by omega, fun c2 => absurd (Or.inl c2) (hq2 c), fun c2 => ⟨by omega, fun _ => hk, fun c3 => absurd (Or.inr c3) (hq2 c)⟩⟩⟩
  | succ d ih =>
    intro S1 h0 h1 o1 o2 hb
    obtain ⟨T, hT⟩ : ∃ T, T = up S1 0 4 (S1 0 4 + 1) := ⟨_, rfl⟩
    have t4 : T 0 4 = S1 0 4 + 1 := by rw [hT, up_s]
    obtain ⟨S2, a1, a2, a3, a4⟩ := ih T (by omega) (by omega) (by rw [hT]; exact o1.up (by decide) (by decide)) (fun j hj => by rw [hT, up_n _ (by omega)]; exact o2 j hj) (fun j j0 j1 => hb j (by omega) j1)
    refine ⟨S2, a1, a2, a3, fun k hk => ?_⟩
    have := a4 k hk
    unfold wX8_next wX8_next_0 at this ⊢
    refine wlp_step (a' := T) (fun P hP => ?_) this
    show wX8_next_0_b S1 (fun b0 => P b0) k
    unfold wX8_next_0_b wX8_next_39
    rw [o2 1 (by decide), hn, o1 1 _ (by omega)]
    have bl := hb (S1 0 4) (by omega) (by omega)
    have go : ∀ S_4 : St, S_4 = up S1 0 4 (w32 (S1 0 4 + 1)) → P S_4 := by
      intro S4 e4
      rw [w32_eq (by omega) (by omega), ← hT] at e4
      rw [e4]; exact hP
    refine ⟨fun c => by omega, fun c => ⟨by omega, fun _ => go, fun c2 => ⟨by omega, fun c3 => ?_, fun _ => go⟩⟩⟩
    rcases bl with g | g
    · exact absurd g c2
    · exact absurd g c3
theorem R_words {v : Int} (hw : wds S) (h7 : S 0 7 = v) (h5 : S 0 5 = 2) : ∃ S', (S' 0 5 = wsN v 14 ∧ ∀ a j, ¬ (a = 0 ∧ j = 5) → S' a j = S a j) ∧ ∀ k : St → Prop, k S' → wX8_next_182 S 0 k := by
  unfold wX8_next_182
  refine run_for (B := fun P k a => wX8_next_182_b a.2 a.1 (fun b0 b1 => P (b0, b1)) k) 14 (fun i S1 => S1 0 5 = wsN v i ∧ ∀ a j, ¬ (a = 0 ∧ j = 5) → S1 a j = S a j) ?_ ?_ ⟨h5, fun _ _ _ => rfl⟩
  · intro i S1 hi hI
    obtain ⟨I1, I2⟩ := hI
    by_cases c : wsN v i = 2
    · left
      have e2 : S1 2 i = wv.getD i 0 := (I2 2 i (by omega)).trans (hw i hi)
      have e7 : S1 0 7 = v := (I2 0 7 (by omega)).trans h7
      refine ⟨up S1 0 5 (wsN v (i + 1)), ⟨up_s _ _ _ _, fun a j x => by rw [up_n _ x]; exact I2 a j x⟩, fun P k hP => ?_⟩
      show wX8_next_182_b S1 i (fun b0 b1 => P (b0, b1)) k
      unfold wX8_next_182_b wX8_next_222
      rw [e2, e7, I1, c]
      have st : ∀ x : Int, x = wsN v (i + 1) → ∀ S_1 : St, S_1 = up S1 0 5 x → ∀ x_2 : Int, x_2 = w32 ((i : Int) + 1) → P (x_2, S_1) := by
        intro x ex S2 e y ey
        rw [ey, w32_eq (by omega) (by omega), e, ex]
        exact hP
      refine ⟨fun z => by omega, fun _ => ⟨fun z => absurd rfl z, fun _ => ⟨by omega, fun z => st 2 ?_, fun z => st _ ?_⟩⟩⟩
      · simp only [wsN]; rw [if_pos c, if_neg z]
      · simp only [wsN]; rw [if_pos c, if_pos z, w32_eq (by omega) (by omega)]
    · right
      have e : ∀ d : Nat, wsN v (i + d) = wsN v i := by
        intro d
        induction d with
        | zero => rfl
        | succ d ih =>
          show wsN v (i + d + 1) = _
          simp only [wsN]
          rw [ih, if_neg c]
      have e14 := e (14 - i)
      rw [show i + (14 - i) = 14 by omega] at e14
      refine ⟨⟨by rw [e14]; exact I1, I2⟩, fun P k hk => ?_⟩
      show wX8_next_182_b S1 i (fun b0 b1 => P (b0, b1)) k
      unfold wX8_next_182_b
      rw [I1]
      exact ⟨fun _ => hk, fun _ => ⟨fun _ => hk, fun z => absurd z c⟩⟩
  · intro S1 hI P k hk
    show wX8_next_182_b S1 ((14 : Nat) : Int) (fun b0 b1 => P (b0, b1)) k
    unfold wX8_next_182_b
    exact ⟨fun _ => hk, fun z => absurd z (by decide)⟩
theorem R_word {q e : Int} (hn : S 0 1 = n) (h4 : n ≤ 4000) (hw : wds S) (q0 : 0 ≤ q) (he : q < e ∧ e ≤ n) (hl : ∀ j, q ≤ j → j < e → isLt (S 1 j) ∨ isDg (S 1 j)) (hx : e < n → ¬ (isLt (S 1 e) ∨ isDg (S 1 e))) (d : Nat) : ∀ (i : Nat) (S1 : St), q + i + d = e → S1 0 4 = q + i → S1 0 7 = vaN (S 1) q i → offN S S1 → S1 0 6 = S 0 6 →
    ∃ S2, S2 0 4 = e ∧ S2 0 5 = (if 8 < e - q then 1 else wsN (vaN (S 1) q (e - q).toNat) 14) ∧ S2 0 6 = S 0 6 ∧ S2 0 7 = vaN (S 1) q (e - q).toNat ∧ offN S S2 ∧ ∀ k, k S2 → wX8_next_105 S1 i k := by
  induction d with
  | zero =>
    intro i S1 h1 h2 h3 o1 h6
    have ei : (e - q).toNat = i := by omega
    have s1 : S1 0 1 = n := (o1 0 1 (by omega)).trans hn
    have sT : ∀ j, S1 1 j = S 1 j := fun j => o1 1 j (by omega)
    have ext : ∀ (s1 : Int) (k : St → Prop), s1 = (if 8 < e - q then 1 else 2) → wX8_next_177 S1 s1 k → wX8_next_105 S1 i k := by
      intro s k es hk
      unfold wX8_next_105
      refine wlp_exit (fun P => ?_)
      show wX8_next_105_b S1 i (fun b0 b1 => P (b0, b1)) k
      unfold wX8_next_105_b
      have nl : ¬ (S1 0 4 < n ∧ isLt (S1 1 (S1 0 4))) := by
        rw [sT, h2]
        rintro ⟨a, b⟩
        rw [show q + (i : Int) = e by omega] at a b
        exact hx a (Or.inl b)
      have nd : ¬ (S1 0 4 < n ∧ isDg (S1 1 (S1 0 4))) := by
        rw [sT, h2]
        rintro ⟨a, b⟩
        rw [show q + (i : Int) = e by omega] at a b
        exact hx a (Or.inr b)
      refine R_isLt s1 h4 (by omega) (fun z => absurd z nl) (fun _ => ⟨fun z => absurd rfl z, fun _ => R_isDg s1 h4 (by omega) (fun z => absurd z nd) (fun _ => ⟨fun _ => ⟨fun z => ?_, fun z => ?_⟩, fun z => absurd rfl z⟩)⟩)
      · rw [if_neg (by omega)] at es; rw [es] at hk; exact hk
      · rw [if_pos (by omega)] at es; rw [es] at hk; exact hk
    obtain ⟨T, hT⟩ : ∃ T, T = up S1 0 5 (if 8 < e - q then 1 else 2) := ⟨_, rfl⟩
    have oT : offN S T := by rw [hT]; exact o1.up (by decide) (by decide)
    have t4 : T 0 4 = e := by rw [hT, up_n _ (by omega)]; omega
    have t6 : T 0 6 = S 0 6 := by rw [hT, up_n _ (by omega)]; exact h6
    have t7 : T 0 7 = vaN (S 1) q i := by rw [hT, up_n _ (by omega)]; exact h3
    have t5 : T 0 5 = if 8 < e - q then 1 else 2 := by rw [hT, up_s]
    by_cases c : 8 < e - q
    · rw [if_pos c] at t5 ⊢
      refine ⟨T, t4, t5, t6, by rw [ei]; exact t7, oT, fun k hk => ext 1 k (by rw [if_pos c]) ?_⟩
      unfold wX8_next_177
      intro U eU
      rw [if_pos c, ← eU] at hT
      rw [← hT]
      unfold wX8_next_182
      refine wlp_exit (fun P => ?_)
      show wX8_next_182_b T 0 (fun b0 b1 => P (b0, b1)) k
      unfold wX8_next_182_b
      rw [t5]
      exact ⟨fun _ => hk, fun _ => ⟨fun _ => hk, fun z => absurd z (by decide)⟩⟩
    · rw [if_neg c] at t5 ⊢
      have wT : wds T := fun j hj => by rw [oT 2 j (by omega)]; exact hw j hj
      obtain ⟨S2, ⟨a1, a2⟩, a3⟩ := R_words wT t7 t5
      refine ⟨S2, (a2 0 4 (by omega)).trans t4, by rw [ei]; exact a1, (a2 0 6 (by omega)).trans t6, by rw [ei]; exact (a2 0 7 (by omega)).trans t7, fun a j x => (a2 a j (by omega)).trans (oT a j x), fun k hk => ext 2 k (by rw [if_neg c]) ?_⟩
      unfold wX8_next_177
      intro U eU
      rw [if_neg c, ← eU] at hT
      rw [← hT]
      exact a3 k hk
  | succ d ih =>
    intro i S1 h1 h2 h3 o1 h6
    have s1 : S1 0 1 = n := (o1 0 1 (by omega)).trans hn
    have sT : ∀ j, S1 1 j = S 1 j := fun j => o1 1 j (by omega)
    obtain ⟨T, hT⟩ : ∃ T, T = up (up S1 0 7 (or64 (shl64 (S1 0 7) 8) (S 1 (q + i)))) 0 4 (q + i + 1) := ⟨_, rfl⟩
    obtain ⟨S2, b1, b2, b3, b4, b5, b6⟩ := ih (i + 1) T (by omega) (by rw [hT, up_s]; omega) (by rw [hT, up_n _ (by omega), up_s, h3]; rfl) (by rw [hT]; exact (o1.up (by decide) (by decide)).up (by decide) (by decide)) (by rw [hT, up_n _ (by omega), up_n _ (by omega)]; exact h6)
    refine ⟨S2, b1, b2, b3, b4, b5, fun k hk => ?_⟩
    have := b6 k hk
    unfold wX8_next_105 at this ⊢
    refine wlp_step (a' := ((i + 1 : Nat), T)) (fun P hP => ?_) this
    show wX8_next_105_b S1 i (fun b0 b1 => P (b0, b1)) k
    unfold wX8_next_105_b
    have go : wX8_next_127 S1 i (fun b0 b1 => P (b0, b1)) k := by
      unfold wX8_next_127
      rw [h2, sT]
      refine ⟨by omega, fun S3 e3 S4 e4 x ex => ?_⟩
      rw [e3, up_n _ (by omega), h2, w32_eq (by omega) (by omega), ← hT] at e4
      rw [ex, w32_eq (by omega) (by omega), e4]
      exact hP
    have hl1 := hl (q + i) (by omega) (by omega)
    refine R_isLt s1 h4 (by omega) (fun z => ⟨fun _ => go, fun z => absurd z (by decide)⟩) (fun z => ⟨fun z => absurd rfl z, fun _ => R_isDg s1 h4 (by omega) (fun z => ⟨fun z => absurd z (by decide), fun _ => go⟩) (fun z2 => ?_)⟩)
    exfalso
    rw [sT, h2] at z z2
    rcases hl1 with g | g
    · exact z ⟨by omega, g⟩
    · exact z2 ⟨by omega, g⟩
theorem R_next {p s v q e : Int} (hn : S 0 1 = n) (h4 : n ≤ 4000) (hw : wds S) (hp : S 0 4 = p) (p0 : 0 ≤ p) (t : Tok (S 1) n p s v q e) : ∃ S2, S2 0 4 = e ∧ S2 0 5 = s ∧ S2 0 6 = q ∧ (s = 2 ∨ s = 3 → S2 0 7 = v) ∧ offN S S2 ∧ ∀ k, k S2 → wX8_next S k := by
  obtain ⟨t1, t2, t3, t4⟩ := t
  have nb : q < n → ¬ isBl (S 1 q) := by
    intro z b
    rcases t4 with g | g | g | g | g
    · omega
    · have := g.2.1; unfold isBl at b; unfold isLt at this; omega
    · have := g.2.1; unfold isBl at b; unfold isDg at this; omega
    · have := g.2.1; unfold isBl at b; unfold isSg at this; omega
    · exact g.2.1 b
  obtain ⟨S1, a1, a2, a3, a4⟩ := R_skip hn h4 t2 nb (q - p).toNat S (by omega) (by omega) (offN.refl S) (fun _ _ => rfl) (fun j j0 j1 => t3 j (by omega) j1)
  obtain ⟨T, hT⟩ : ∃ T, T = up S1 0 6 q := ⟨_, rfl⟩
  have oT : offN S T := by rw [hT]; exact a2.up (by decide) (by decide)
  have T1 : T 0 1 = n := (oT 0 1 (by omega)).trans hn
  have T4 : T 0 4 = q := by rw [hT, up_n _ (by omega)]; exact a1
  have T6 : T 0 6 = q := by rw [hT, up_s]
  have TT : ∀ j, T 1 j = S 1 j := fun j => oT 1 j (by omega)
  have q0 : 0 ≤ q := by omega
  have one : ∀ (s1 : Int), s1 = s → e = q + 1 → q < n → ¬ (s = 2 ∨ s = 3) → (∀ k : St → Prop, wX8_next_342 T s1 k → wX8_next_52 S1 k) → ∃ S2, S2 0 4 = e ∧ S2 0 5 = s ∧ S2 0 6 = q ∧ (s = 2 ∨ s = 3 → S2 0 7 = v) ∧ offN S S2 ∧ ∀ k, k S2 → wX8_next S k := by
    intro s1 es ee qn ns hk
    refine ⟨up (up T 0 5 s1) 0 4 (q + 1), by rw [up_s]; omega, by rw [up_n _ (by omega), up_s]; exact es, by rw [up_n _ (by omega), up_n _ (by omega)]; exact T6, fun z => absurd z ns, (oT.up (by decide) (by decide)).up (by decide) (by decide), fun k hk2 => a4 k (hk k ?_)⟩
    unfold wX8_next_342
    intro U1 e1 U2 e2
    rw [e1, up_n _ (by omega), T4, w32_eq (by omega) (by omega)] at e2
    rw [e2]; exact hk2
  rcases t4 with g | g | g | g | g
  · obtain ⟨g1, g2, g3⟩ := g
    refine ⟨up T 0 5 0, by rw [up_n _ (by omega)]; omega, by rw [up_s]; omega, by rw [up_n _ (by omega)]; exact T6, fun z => by omega, oT.up (by decide) (by decide), fun k hk => a4 k ?_⟩
    unfold wX8_next_52
    intro U eU
    rw [a1, ← hT] at eU
    rw [eU, T4, T1]
    refine ⟨fun z => absurd g1 z, fun _ V eV => ?_⟩
    rw [eV]; exact hk
  · obtain ⟨g1, g2, g3, g4, g5, g6, g7⟩ := g
    obtain ⟨V, hV⟩ : ∃ V, V = up T 0 7 0 := ⟨_, rfl⟩
    have oV : offN S V := by rw [hV]; exact oT.up (by decide) (by decide)
    have V1 : V 0 1 = n := (oV 0 1 (by omega)).trans hn
    have VT : ∀ j, V 1 j = S 1 j := fun j => oV 1 j (by omega)
    have VTf : V 1 = S 1 := funext VT
    have wV : wds V := fun j hj => by rw [oV 2 j (by omega)]; exact hw j hj
    have V6 : V 0 6 = q := by rw [hV, up_n _ (by omega)]; exact T6
    obtain ⟨S2, b1, b2, b3, b4, b5, b6⟩ := R_word (S := V) V1 h4 wV q0 g3 (by intro j j0 j1; rw [VT]; exact g4 j j0 j1) (by intro z; rw [VT]; exact g5 z) (e - q).toNat 0 V (by omega) (by rw [hV, up_n _ (by omega)]; omega) (by rw [hV, up_s]; rfl) (offN.refl V) rfl
    rw [VTf] at b2 b4
    refine ⟨S2, b1, by rw [b2, g6], b3.trans V6, fun _ => by rw [b4, g7], fun a j x => (b5 a j x).trans (oV a j x), fun k hk => a4 k ?_⟩
    unfold wX8_next_52
    intro U eU
    rw [a1, ← hT] at eU
    rw [eU, T4, T1, TT]
    refine ⟨fun _ => ⟨by omega, fun x ex => R_isLt T1 h4 q0 (fun _ => ⟨fun z => absurd z (by decide), fun _ W eW => ?_⟩) (fun z => absurd ⟨g1, by rw [TT]; exact g2⟩ z)⟩, fun z => by omega⟩
    rw [← hV] at eW
    rw [eW]
    exact b6 k hk
  · obtain ⟨g1, g2, g3, g4, g5⟩ := g
    have g2' := g2
    unfold isDg at g2'
    refine ⟨up (up (up T 0 7 (S 1 q - 48)) 0 5 3) 0 4 (q + 1), by rw [up_s]; omega, by rw [up_n _ (by omega), up_s]; omega, by rw [up_n _ (by omega), up_n _ (by omega), up_n _ (by omega)]; exact T6, fun _ => by rw [up_n _ (by omega), up_n _ (by omega), up_s]; omega, ((oT.up (by decide) (by decide)).up (by decide) (by decide)).up (by decide) (by decide), fun k hk => a4 k ?_⟩
    unfold wX8_next_52
    intro U eU
    rw [a1, ← hT] at eU
    rw [eU, T4, T1, TT]
    refine ⟨fun _ => ⟨by omega, fun x ex => R_isLt T1 h4 q0 (fun z => ?_) (fun _ => ⟨fun _ => R_isDg T1 h4 q0 (fun _ => ⟨fun z => absurd z (by decide), fun _ U1 e1 U2 e2 U3 e3 => ?_⟩) (fun z => absurd ⟨g1, by rw [TT]; exact g2⟩ z), fun z => absurd rfl z⟩)⟩, fun z => by omega⟩
    · have := z.2
      rw [TT] at this
      unfold isLt at this
      omega
    · rw [ex, w32_eq (by omega) (by omega)] at e1
      rw [e2, up_n _ (by omega), e1, up_n _ (by omega), T4, w32_eq (by omega) (by omega)] at e3
      rw [e3]; exact hk
  · obtain ⟨g1, g2, g3, g4⟩ := g
    have nl : ¬ (q < n ∧ isLt (T 1 q)) := by rintro ⟨_, z⟩; rw [TT] at z; unfold isLt at z; unfold isSg at g2; omega
    have nd : ¬ (q < n ∧ isDg (T 1 q)) := by rintro ⟨_, z⟩; rw [TT] at z; unfold isDg at z; unfold isSg at g2; omega
    refine one (S 1 q) g4.symm g3 g1 (by rw [g4]; unfold isSg at g2; omega) (fun k hk => ?_)
    unfold wX8_next_52 wX8_next_326 wX8_next_331
    intro U eU
    rw [a1, ← hT] at eU
    rw [eU, T4, T1, TT]
    have fin : ((1 : Int) = 0 → wX8_next_342 T 1 k) ∧ (¬ (1 : Int) = 0 → wX8_next_342 T (S 1 q) k) := ⟨fun z => absurd z (by decide), fun _ => hk⟩
    refine ⟨fun _ => ⟨by omega, fun x ex => R_isLt T1 h4 q0 (fun z => absurd z nl) (fun _ => ⟨fun _ => R_isDg T1 h4 q0 (fun z => absurd z nd) (fun _ => ⟨fun _ => ?_, fun z => absurd rfl z⟩), fun z => absurd rfl z⟩)⟩, fun z => by omega⟩
    rw [ex]
    refine ⟨fun _ => fin, fun c1 => ⟨fun _ => fin, fun c2 => ⟨fun _ => fin, fun c3 => ⟨fun _ => fin, fun c4 => ⟨fun _ => fin, fun c5 => ⟨fun _ => fin, fun c6 => ⟨fun _ => fin, fun c7 => ⟨fun _ => fin, fun c8 => ⟨fun c9 => ?_, fun _ => fin⟩⟩⟩⟩⟩⟩⟩⟩⟩
    unfold isSg at g2
    omega
  · obtain ⟨g1, g2, g3, g4, g5, g6, g7⟩ := g
    have nl : ¬ (q < n ∧ isLt (T 1 q)) := by rintro ⟨_, z⟩; rw [TT] at z; exact g3 z
    have nd : ¬ (q < n ∧ isDg (T 1 q)) := by rintro ⟨_, z⟩; rw [TT] at z; exact g4 z
    refine one 1 g7.symm g6 g1 (by omega) (fun k hk => ?_)
    unfold wX8_next_52 wX8_next_326 wX8_next_331
    intro U eU
    rw [a1, ← hT] at eU
    rw [eU, T4, T1, TT]
    refine ⟨fun _ => ⟨by omega, fun x ex => R_isLt T1 h4 q0 (fun z => absurd z nl) (fun _ => ⟨fun _ => R_isDg T1 h4 q0 (fun z => absurd z nd) (fun _ => ⟨fun _ => ?_, fun z => absurd rfl z⟩), fun z => absurd rfl z⟩)⟩, fun z => by omega⟩
    rw [ex]
    unfold isSg at g5
    exact ⟨fun z => by omega, fun c1 => ⟨fun z => by omega, fun c2 => ⟨fun z => by omega, fun c3 => ⟨fun z => by omega, fun c4 => ⟨fun z => by omega, fun c5 => ⟨fun z => by omega, fun c6 => ⟨fun z => by omega, fun c7 => ⟨fun z => by omega, fun c8 => ⟨fun _ => ⟨fun _ => hk, fun z => absurd rfl z⟩, fun z => by omega⟩⟩⟩⟩⟩⟩⟩⟩⟩
end Next
