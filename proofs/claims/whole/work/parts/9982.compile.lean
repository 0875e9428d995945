/-! pure: compile: before the loop; behind it -/
section Comp
variable {b h t M base np n : Int} {S D SR S' D' : St}
theorem vaN_cong {T T' : Int → Int} {q : Int} (L : Nat) (e : ∀ j, q ≤ j → j < q + L → T' j = T j) (k : Nat) : k ≤ L → vaN T' q k = vaN T q k := by
  induction k with
  | zero => intro _; rfl
  | succ k ih =>
    intro hk
    show or64 (shl64 (vaN T' q k) 8) (T' (q + k)) = or64 (shl64 (vaN T q k) 8) (T (q + k))
    rw [ih (by omega), e (q + k) (by omega) (by omega)]
theorem Tok_cong {T T' : Int → Int} {p s v q e : Int} (eq : ∀ j, 0 ≤ j → j < n → T' j = T j) (p0 : 0 ≤ p) (t : Tok T n p s v q e) : Tok T' n p s v q e := by
  obtain ⟨a1, a2, a3, a4⟩ := t
  refine ⟨a1, a2, fun j j0 j1 => by rw [eq j (by omega) (by omega)]; exact a3 j j0 j1, ?_⟩
  rcases a4 with w | ⟨w1, w2, w3, w4, w5, w6, w7⟩ | w | w | w
  · exact Or.inl w
  · have v' : vaN T' q (e - q).toNat = vaN T q (e - q).toNat := vaN_cong (e - q).toNat (fun j j0 j1 => eq j (by omega) (by omega)) _ (Nat.le_refl _)
    refine Or.inr (Or.inl ⟨w1, by rw [eq q (by omega) w1]; exact w2, w3, fun j j0 j1 => by rw [eq j (by omega) (by omega)]; exact w4 j j0 j1, fun z => by rw [eq e (by omega) z]; exact w5 z, by rw [v']; exact w6, by rw [v']; exact w7⟩)
  · exact Or.inr (Or.inr (Or.inl ⟨w.1, by rw [eq q (by omega) w.1]; exact w.2.1, w.2.2.1, w.2.2.2.1, by rw [eq q (by omega) w.1]; exact w.2.2.2.2⟩))
  · exact Or.inr (Or.inr (Or.inr (Or.inl ⟨w.1, by rw [eq q (by omega) w.1]; exact w.2.1, w.2.2.1, by rw [eq q (by omega) w.1]; exact w.2.2.2⟩)))
  · exact Or.inr (Or.inr (Or.inr (Or.inr (by rw [eq q (by omega) w.1]; exact w))))
/-- the reference before the loop -/
def cst (SR D : St) (h' : Int) : Prop := (D 0 10 = h' ∧ D 3 h' = 0 ∧ D 4 h' = 0 ∧ D 5 h' = 0 ∧ D 6 h' = 0 ∧ D 0 46 = 0 ∧ D 0 47 = 0 ∧ D 0 4 = 0 ∧ D 0 8 = 0) ∧ ∀ a j, ¬ (a = 0 ∧ (j = 4 ∨ j = 8 ∨ j = 10 ∨ j = 46 ∨ j = 47)) → ¬ ((3 ≤ a ∧ a ≤ 6) ∧ j = h') → D a j = SR a j
theorem R_cstart {h' : Int} (h11 : SR 0 11 = h) (hh : half01 h) (e' : h' = 1 - h) : ∃ D, cst SR D h' ∧ ∀ k : Int → St → Prop, wX8_next D (fun S_29 => wX8_compile_74 S_29 k) → wX8_compile SR k := by
  have h01 : 0 ≤ h ∧ h ≤ 1 := by unfold half01 at hh; omega
  obtain ⟨D, e⟩ : ∃ D, D = up (up (up (up (up (up (up (up (up SR 0 10 h') 3 h' 0) 4 h' 0) 5 h' 0) 6 h' 0) 0 46 0) 0 47 0) 0 4 0) 0 8 0 := ⟨_, rfl⟩
  refine ⟨D, ⟨⟨?_, ?_, ?_, ?_, ?_, ?_, ?_, ?_, ?_⟩, fun a j g1 g2 => ?_⟩, fun k hk => ?_⟩
  · rw [e, up_n _ (by omega), up_n _ (by omega), up_n _ (by omega), up_n _ (by omega), up_n _ (by omega), up_n _ (by omega), up_n _ (by omega), up_n _ (by omega), up_s]
  · rw [e, up_n _ (by omega), up_n _ (by omega), up_n _ (by omega), up_n _ (by omega), up_n _ (by omega), up_n _ (by omega), up_n _ (by omega), up_s]
  · rw [e, up_n _ (by omega), up_n _ (by omega), up_n _ (by omega), up_n _ (by omega), up_n _ (by omega), up_n _ (by omega), up_s]
  · rw [e, up_n _ (by omega), up_n _ (by omega), up_n _ (by omega), up_n _ (by omega), up_n _ (by omega), up_s]
  · rw [e, up_n _ (by omega), up_n _ (by omega), up_n _ (by omega), up_n _ (by omega), up_s]
  · rw [e, up_n _ (by omega), up_n _ (by omega), up_n _ (by omega), up_s]
  · rw [e, up_n _ (by omega), up_n _ (by omega), up_s]
  · rw [e, up_n _ (by omega), up_s]
  · rw [e, up_s]
  · rw [e, up_n _ (by omega), up_n _ (by omega), up_n _ (by omega), up_n _ (by omega), up_n _ (by omega), up_n _ (by omega), up_n _ (by omega), up_n _ (by omega), up_n _ (by omega)]
  · unfold wX8_compile wX8_compile_0
    rw [h11, w32_eq (by omega) (by omega), ← e']
    intro S4 e4
    have a4 : S4 0 10 = h' := by rw [e4, up_s]
    rw [a4]
    refine ⟨by omega, fun S8 e8 => ?_⟩
    have a8 : S8 0 10 = h' := by rw [e8, up_n _ (by omega)]; exact a4
    rw [a8]
    refine ⟨by omega, fun S12 e12 => ?_⟩
    have a12 : S12 0 10 = h' := by rw [e12, up_n _ (by omega)]; exact a8
    rw [a12]
    refine ⟨by omega, fun S16 e16 => ?_⟩
    have a16 : S16 0 10 = h' := by rw [e16, up_n _ (by omega)]; exact a12
    rw [a16]
    refine ⟨by omega, fun S20 e20 S22 e22 S24 e24 S26 e26 S28 e28 => ?_⟩
    have : S28 = D := by rw [e28, e26, e24, e22, e20, e16, e12, e8, e4, e]
    rw [this]; exact hk
theorem C_fclear {k : St → Prop} (h1 : ∀ S', (S' b 1 = 0 ∧ S' b 3 = 0 ∧ S' b 7 = 0 ∧ S' b 8 = 0) → (∀ j, 0 ≤ j → j < 242 → S' (b + 3) j = 0) → (∀ a j, ¬ (a = b ∧ (j = 1 ∨ j = 3 ∨ j = 7 ∨ j = 8)) → ¬ a = b + 3 → S' a j = S a j) → k S') : wX2_clear S b k := by
  unfold wX2_clear wX2_clear_0
  intro S1 e1 S2 e2 S3 e3 S4 e4
  unfold wX2_clear_22
  have o4 : ∀ a j, ¬ (a = b ∧ (j = 1 ∨ j = 3 ∨ j = 7 ∨ j = 8)) → S4 a j = S a j := fun a j g => by rw [e4, up_n _ (by omega), e3, up_n _ (by omega), e2, up_n _ (by omega), e1, up_n _ (by omega)]
  refine wlp_for 242 (fun i s => (∀ j : Int, 0 ≤ j → j < i → s (b + 3) j = 0) ∧ ∀ a j : Int, ¬ (a = b + 3) → s a j = S4 a j) ?_ ?_ ⟨fun j j0 j1 => by omega, fun _ _ _ => rfl⟩
  · intro P i s hi I hP
    obtain ⟨i1, i2⟩ := I
    show wX2_clear_22_b s b i (fun b0 b1 => P (b0, b1)) k
    unfold wX2_clear_22_b
    refine ⟨fun z => by omega, fun z => ⟨by omega, fun s' es y ey => ?_⟩⟩
    rw [w32_eq (by omega) (by omega)] at ey
    rw [ey]
    refine hP s' ⟨fun j j0 j1 => ?_, fun a j g => ?_⟩
    · by_cases c : j = i
      · rw [es, c, up_s]
      · rw [es, up_n _ (by omega)]; exact i1 j j0 (by omega)
    · rw [es, up_n _ (by omega)]; exact i2 a j g
  · intro P s I
    obtain ⟨i1, i2⟩ := I
    show wX2_clear_22_b s b (242 : Nat) (fun b0 b1 => P (b0, b1)) k
    unfold wX2_clear_22_b
    refine ⟨fun _ => h1 s ⟨?_, ?_, ?_, ?_⟩ (fun j j0 j1 => i1 j j0 (by omega)) (fun a j g1 g2 => by rw [i2 a j g2]; exact o4 a j g1), fun z => absurd z (by decide)⟩
    · rw [i2 _ _ (by omega), e4, up_n _ (by omega), e3, up_n _ (by omega), e2, up_n _ (by omega), e1, up_s]
    · rw [i2 _ _ (by omega), e4, up_n _ (by omega), e3, up_n _ (by omega), e2, up_s]
    · rw [i2 _ _ (by omega), e4, up_n _ (by omega), e3, up_s]
    · rw [i2 _ _ (by omega), e4, up_s]
theorem C_start {k : St → Prop} (h1 : ∀ S', (S' 1032 4 = 0 ∧ S' 1032 5 = S 1029 0 ∧ S' 1032 6 = S 1030 0 ∧ S' 1032 7 = 0 ∧ S' 1032 8 = 0 ∧ S' 1032 9 = 0 ∧ S' 1032 10 = 0 ∧ S' 1032 11 = 0) → (∀ a j, ¬ (a = 1032 ∧ 4 ≤ j ∧ j ≤ 11) → S' a j = S a j) → k S') : wX4_start S k := by
  unfold wX4_start wX4_start_0
  intro S1 e1 S2 e2 S3 e3 S4 e4 S5 e5 S6 e6 S7 e7 S8 e8
  rw [e1, up_n _ (by omega)] at e2
  rw [e2, up_n _ (by omega), up_n _ (by omega)] at e3
  refine h1 S8 ⟨?_, ?_, ?_, ?_, ?_, ?_, ?_, ?_⟩ (fun a j g => ?_)
  · rw [e8, up_n _ (by omega), e7, up_n _ (by omega), e6, up_n _ (by omega), e5, up_n _ (by omega), e4, up_n _ (by omega), e3, up_n _ (by omega), up_n _ (by omega), up_s]
  · rw [e8, up_n _ (by omega), e7, up_n _ (by omega), e6, up_n _ (by omega), e5, up_n _ (by omega), e4, up_n _ (by omega), e3, up_n _ (by omega), up_s]
  · rw [e8, up_n _ (by omega), e7, up_n _ (by omega), e6, up_n _ (by omega), e5, up_n _ (by omega), e4, up_n _ (by omega), e3, up_s]
  · rw [e8, up_n _ (by omega), e7, up_n _ (by omega), e6, up_n _ (by omega), e5, up_n _ (by omega), e4, up_s]
  · rw [e8, up_n _ (by omega), e7, up_n _ (by omega), e6, up_n _ (by omega), e5, up_s]
  · rw [e8, up_n _ (by omega), e7, up_n _ (by omega), e6, up_s]
  · rw [e8, up_n _ (by omega), e7, up_s]
  · rw [e8, up_s]
  · rw [e8, up_n _ (by omega), e7, up_n _ (by omega), e6, up_n _ (by omega), e5, up_n _ (by omega), e4, up_n _ (by omega), e3, up_n _ (by omega), up_n _ (by omega), up_n _ (by omega)]
/-- a text that is read whole gives a court -/
theorem Bt_Rel (hh : half01 h) (B : Bt S b D h t M base) (P : Pq S b D h np) : Rel S b D h ∧ okA D h ∧ okK D h ∧ exD D h := by
  have h01 : 0 ≤ h ∧ h ≤ 1 := by unfold half01 at hh; omega
  obtain ⟨⟨⟨a1, a2, a3, a4⟩, a5⟩, a6, Kc, ⟨a7, a8, a9⟩, ⟨⟨b1, b2⟩, b3, b4⟩, b5, b6⟩ := B
  obtain ⟨k1, k2, k3, k4, k5, k6, k7, k8⟩ := Kc
  have ob : ∀ u, 0 ≤ u → u < t → 0 ≤ D 13 (24 * h + u) ∧ D 13 (24 * h + u) ≤ 2 := fun u u0 u1 => (k1 u u0 u1).2.2.2.1.1
  refine ⟨⟨⟨?_, ?_, ?_, ?_⟩, fun u u0 u1 => ?_, ?_, ?_, ?_, ?_⟩, ⟨⟨⟨?_, fun u u0 u1 => ?_⟩, fun u u0 u1 => ?_⟩, ?_, ?_, ?_, fun m m0 m1 => ?_, fun u u0 u1 => ?_⟩, ⟨fun m q m0 m1 q0 q1 q2 => ?_, fun m q m0 m1 q0 q1 => ?_⟩, b6, fun u u0 u1 => ?_⟩
  · rw [a3, a4]
  · rw [b1, b3]
  · rw [b2, b4]
  · rw [P.1.2.1, P.1.2.2.1]
  · rw [a4] at u1; exact (k1 u u0 u1).2.2.1
  · rw [b3]; exact a7
  · rw [b3]; exact a8
  · rw [b4]; exact k3
  · rw [b3]; exact fun o q o0 o1 q0 q1 => k5 o q o0 o1 q0 q1
  · rw [a4]; exact a5.2
  · rw [a4] at u1; exact ⟨(k1 u u0 u1).1.1, (k1 u u0 u1).1.2.1⟩
  · rw [a4] at u1; exact (k1 u u0 u1).1.2.2
  · rw [a4]; exact a5.1
  · rw [b3]; exact b5
  · rw [b4]; omega
  · rw [b3] at m1
    have w := k2 m m0 m1
    rw [a4]
    exact ⟨w.1, w.2.1, w.2.2.1⟩
  · rw [a4] at u1
    have w := (k1 u u0 u1).2.1
    unfold okZ
    rw [b3, b4]; exact w
  · rw [b3] at m1
    have w := k2 m m0 m1
    have kk := w.2.2.2 q q0 q1 q2
    have v := (k1 _ w.1.2.1.1 w.2.1).2.2.2.1
    refine ⟨?_, ?_, fun z => ?_⟩
    · unfold kOK at kk; omega
    · unfold kEr bnd
      unfold kOK at kk
      split
      · have := v.2 (D 33 (3 * (120 * h + m) + q) - 100) (by omega) (by omega)
        rw [show 2 * (24 * h + D 28 (120 * h + m)) + D 33 (3 * (120 * h + m) + q) - 100 = 2 * (24 * h + D 28 (120 * h + m)) + (D 33 (3 * (120 * h + m) + q) - 100) by omega]
        omega
      · omega
    · unfold kOK at kk
      have := w.1.2.1
      omega
  · rw [b3] at m1 q1
    exact k7 m q m0 m1 q0 (by omega)
  · rw [a4] at u1; exact ob u u0 u1
end Comp
