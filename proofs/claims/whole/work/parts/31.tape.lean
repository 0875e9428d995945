/-! pure: feed -/
theorem put_step {S : St} {x y n : Int} {P : Int → St → Prop} {k : St → Prop} (hn : S 0 1 = n) (h0 : 0 ≤ n) (h1 : n < 4000) (hy : 0 ≤ y) (hy2 : y ≤ 24) (h : P (y - 8) (up (up S 1 n (sb8 (sb8 (ushr32 x y)))) 0 1 (n + 1))) : wX7_put_3_b S x y P k := by
  unfold wX7_put_3_b
  refine ⟨fun c => absurd c (by omega), fun _ => ⟨fun c => absurd c (by omega), fun _ => ⟨by omega, fun S1 e1 S2 e2 z ez => ?_⟩⟩⟩
  subst e1; subst e2; subst ez
  rw [hn]
  have e3 : (up S 1 n (sb8 (sb8 (ushr32 x y)))) 0 1 = n := by rw [up_n S (by omega), hn]
  rw [e3, w32_eq (by omega) (by omega), w32_eq (by omega) (by omega)]
  exact h
theorem put_end {S : St} {x y : Int} {P : Int → St → Prop} {k : St → Prop} (hy : y < 0) (h : k S) : wX7_put_3_b S x y P k := by
  unfold wX7_put_3_b
  exact ⟨fun _ => h, fun c => absurd c (by omega)⟩
/-- S' is S with four bytes of x behind its n -/
def put4 (S S' : St) (n x : Int) : Prop := offT S S' ∧ S' 0 1 = n + 4 ∧ (∀ j, j < n → S' 1 j = S 1 j) ∧ S' 1 n = byt x 0 ∧ S' 1 (n + 1) = byt x 1 ∧ S' 1 (n + 2) = byt x 2 ∧ S' 1 (n + 3) = byt x 3
theorem C_put {S : St} {x n : Int} {k : St → Prop} (hn : S 0 1 = n) (h0 : 0 ≤ n) (h4 : n + 4 ≤ 4000) (h : ∀ S', put4 S S' n x → k S') : wX7_put S x k := by
  unfold wX7_put wX7_put_0 wX7_put_3
  refine ⟨5, ?_⟩
  obtain ⟨S1, e1⟩ : ∃ z, z = up (up S 1 n (sb8 (sb8 (ushr32 x 24)))) 0 1 (n + 1) := ⟨_, rfl⟩
  obtain ⟨S2, e2⟩ : ∃ z, z = up (up S1 1 (n + 1) (sb8 (sb8 (ushr32 x 16)))) 0 1 (n + 1 + 1) := ⟨_, rfl⟩
  obtain ⟨S3, e3⟩ : ∃ z, z = up (up S2 1 (n + 1 + 1) (sb8 (sb8 (ushr32 x 8)))) 0 1 (n + 1 + 1 + 1) := ⟨_, rfl⟩
  obtain ⟨S4, e4⟩ : ∃ z, z = up (up S3 1 (n + 1 + 1 + 1) (sb8 (sb8 (ushr32 x 0)))) 0 1 (n + 1 + 1 + 1 + 1) := ⟨_, rfl⟩
  refine put_step (S := S) (y := 24) hn h0 (by omega) (by decide) (by decide) ?_
  rw [← e1]
  refine put_step (S := S1) (y := 16) (n := n + 1) (by rw [e1]; exact up_s _ _ _ _) (by omega) (by omega) (by decide) (by decide) ?_
  rw [← e2]
  refine put_step (S := S2) (y := 8) (n := n + 1 + 1) (by rw [e2]; exact up_s _ _ _ _) (by omega) (by omega) (by decide) (by decide) ?_
  rw [← e3]
  refine put_step (S := S3) (y := 0) (n := n + 1 + 1 + 1) (by rw [e3]; exact up_s _ _ _ _) (by omega) (by omega) (by decide) (by decide) ?_
  rw [← e4]
  refine put_end (S := S4) (y := -8) (by decide) ?_
  subst e1; subst e2; subst e3; subst e4
  apply h
  refine ⟨?_, ?_, ?_, ?_, ?_, ?_, ?_⟩
  · intro a j h1 h2
    simp [up, h1, h2]
  · rw [up_s]; omega
  · intro j hj
    have e1 : ¬ j = n := by omega
    have e2 : ¬ j = n + 1 := by omega
    have e3 : ¬ j = n + 1 + 1 := by omega
    have e4 : ¬ j = n + 1 + 1 + 1 := by omega
    simp [up, e1, e2, e3, e4]
  · have e2 : ¬ n = n + 1 := by omega
    have e3 : ¬ n = n + 1 + 1 := by omega
    have e4 : ¬ n = n + 1 + 1 + 1 := by omega
    simp [up, e2, e3, e4, byt]
  · have e3 : ¬ n + 1 = n + 1 + 1 := by omega
    have e4 : ¬ n + 1 = n + 1 + 1 + 1 := by omega
    simp [up, e3, e4, byt]
  · have e0 : n + 2 = n + 1 + 1 := by omega
    have e4 : ¬ n + 1 + 1 = n + 1 + 1 + 1 := by omega
    rw [e0]
    simp [up, e4, byt]
  · have e0 : n + 3 = n + 1 + 1 + 1 := by omega
    rw [e0]
    simp [up, byt]
theorem put4_q {S S' : St} {n x : Int} (h : put4 S S' n x) {q : Int} (h0 : 0 ≤ q) (h1 : q < 4) : S' 1 (n + q) = byt x q := by
  obtain ⟨_, _, _, p0, p1, p2, p3⟩ := h
  have hq : q = 0 ∨ q = 1 ∨ q = 2 ∨ q = 3 := by omega
  rcases hq with rfl | rfl | rfl | rfl
  · rw [Int.add_zero]; exact p0
  · exact p1
  · exact p2
  · exact p3
/-- S' is S with twenty bytes behind its n -/
def fed (S S' : St) (n x1 x2 x3 x4 x5 : Int) : Prop := offT S S' ∧ S' 0 1 = n + 20 ∧ (∀ j, j < n → S' 1 j = S 1 j) ∧ ∀ q : Int, 0 ≤ q → q < 4 → S' 1 (n + q) = byt x1 q ∧ S' 1 (n + 4 + q) = byt x2 q ∧ S' 1 (n + 8 + q) = byt x3 q ∧ S' 1 (n + 12 + q) = byt x4 q ∧ S' 1 (n + 16 + q) = byt x5 q
theorem C_feed {S : St} {x1 x2 x3 x4 x5 n : Int} {k : Int → St → Prop} (hn : S 0 1 = n) (h0 : 0 ≤ n ∧ n ≤ 4000) (hF : 3980 < n → k (-14) S) (h : n ≤ 3980 → ∀ S', fed S S' n x1 x2 x3 x4 x5 → k (n + 20) S') : wX7_feed S x1 x2 x3 x4 x5 k := by
  unfold wX7_feed wX7_feed_0
  rw [hn, w32_eq (by omega) (by omega)]
  refine ⟨fun c => ?_, fun c => hF (by omega)⟩
  refine C_put hn h0.1 (by omega) (fun S1 p1 => ?_)
  refine C_put (n := n + 4) p1.2.1 (by omega) (by omega) (fun S2 p2 => ?_)
  refine C_put (n := n + 8) (p2.2.1.trans (by omega)) (by omega) (by omega) (fun S3 p3 => ?_)
  refine C_put (n := n + 12) (p3.2.1.trans (by omega)) (by omega) (by omega) (fun S4 p4 => ?_)
  refine C_put (n := n + 16) (p4.2.1.trans (by omega)) (by omega) (by omega) (fun S5 p5 => ?_)
  have e : S5 0 1 = n + 20 := p5.2.1.trans (by omega)
  rw [e]
  refine h (by omega) S5 ⟨p1.1.trans (p2.1.trans (p3.1.trans (p4.1.trans p5.1))), e, fun j hj => ?_, fun q q0 q1 => ⟨?_, ?_, ?_, ?_, ?_⟩⟩
  · rw [p5.2.2.1 j (by omega), p4.2.2.1 j (by omega), p3.2.2.1 j (by omega), p2.2.2.1 j (by omega), p1.2.2.1 j hj]
  · rw [p5.2.2.1 _ (by omega), p4.2.2.1 _ (by omega), p3.2.2.1 _ (by omega), p2.2.2.1 _ (by omega)]; exact put4_q p1 q0 q1
  · rw [p5.2.2.1 _ (by omega), p4.2.2.1 _ (by omega), p3.2.2.1 _ (by omega)]; exact put4_q p2 q0 q1
  · rw [p5.2.2.1 _ (by omega), p4.2.2.1 _ (by omega)]; exact put4_q p3 q0 q1
  · rw [p5.2.2.1 _ (by omega)]; exact put4_q p4 q0 q1
  · exact put4_q p5 q0 q1
def fedR (S S' : St) (n m x1 x2 x3 x4 x5 : Int) : Prop := offT S S' ∧ S' 0 1 = n ∧ (∀ j, j < n → S' 1 j = S 1 j) ∧ ∀ q : Int, 0 ≤ q → q < m → S' 1 (n + q) = byt x1 q ∧ S' 1 (n + 4 + q) = byt x2 q ∧ S' 1 (n + 8 + q) = byt x3 q ∧ S' 1 (n + 12 + q) = byt x4 q ∧ S' 1 (n + 16 + q) = byt x5 q
theorem byt_shr (x : Int) {y m : Int} (h0 : 0 ≤ m) (h1 : m < 4) (hy : y = 24 - 8 * m) : sb8 (sb8 (shr32 x y)) = byt x m := by
  unfold byt
  rw [byt_eq x (n := (24 - 8 * m).toNat) (by omega) (by omega), hy]
theorem R_feed_step {S0 S : St} {x1 x2 x3 x4 x5 n m y z : Int} {P : Int → St → Prop} {k : Int → St → Prop} (h : fedR S0 S n m x1 x2 x3 x4 x5) (h0 : 0 ≤ n ∧ n ≤ 3980) (hm : 0 ≤ m ∧ m < 4) (hy : y = 24 - 8 * m) (hd : div32 y 8 = 3 - m) (hz : z = y - 8)
    (hk : ∀ S', fedR S0 S' n (m + 1) x1 x2 x3 x4 x5 → P z S') : wX8_feed_20_b S x1 x2 x3 x4 x5 y P k := by
  obtain ⟨hf, hn, hlo, hq⟩ := h
  unfold wX8_feed_20_b
  refine ⟨fun c => absurd c (by omega), fun _ w ew => ?_⟩
  have ew : w = n + m := by rw [ew, hn, hd, w32_eq (x := n + 3) (by omega) (by omega), w32_eq (by omega) (by omega)]; omega
  subst ew
  rw [w32_eq (x := n + m + 4) (by omega) (by omega), w32_eq (x := n + m + 8) (by omega) (by omega), w32_eq (x := n + m + 12) (by omega) (by omega), w32_eq (x := n + m + 16) (by omega) (by omega), w32_eq (x := y + -8) (by omega) (by omega)]
  rw [byt_shr x1 hm.1 hm.2 hy, byt_shr x2 hm.1 hm.2 hy, byt_shr x3 hm.1 hm.2 hy, byt_shr x4 hm.1 hm.2 hy, byt_shr x5 hm.1 hm.2 hy]
  refine ⟨by omega, fun T1 e1 => ⟨by omega, fun T2 e2 => ⟨by omega, fun T3 e3 => ⟨by omega, fun T4 e4 => ⟨by omega, fun T5 e5 v ev => ?_⟩⟩⟩⟩⟩
  have ev : v = z := by omega
  rw [ev]
  refine hk T5 ⟨?_, ?_, ?_, ?_⟩
  · subst e1; subst e2; subst e3; subst e4; subst e5
    exact hf.trans (offT.up1.trans (offT.up1.trans (offT.up1.trans (offT.up1.trans offT.up1))))
  · rw [e5, up_n _ (by omega), e4, up_n _ (by omega), e3, up_n _ (by omega), e2, up_n _ (by omega), e1, up_n _ (by omega)]; exact hn
  · intro j hj
    rw [e5, up_n _ (by omega), e4, up_n _ (by omega), e3, up_n _ (by omega), e2, up_n _ (by omega), e1, up_n _ (by omega)]; exact hlo j hj
  · intro q q0 q1
    by_cases hqm : q = m
    · subst hqm
      refine ⟨?_, ?_, ?_, ?_, ?_⟩
      · rw [e5, up_n _ (by omega), e4, up_n _ (by omega), e3, up_n _ (by omega), e2, up_n _ (by omega), e1, up_s]
      · rw [show n + 4 + q = n + q + 4 by omega, e5, up_n _ (by omega), e4, up_n _ (by omega), e3, up_n _ (by omega), e2, up_s]
      · rw [show n + 8 + q = n + q + 8 by omega, e5, up_n _ (by omega), e4, up_n _ (by omega), e3, up_s]
      · rw [show n + 12 + q = n + q + 12 by omega, e5, up_n _ (by omega), e4, up_s]
      · rw [show n + 16 + q = n + q + 16 by omega, e5, up_s]
    · have hh := hq q q0 (by omega)
      refine ⟨?_, ?_, ?_, ?_, ?_⟩
      · rw [e5, up_n _ (by omega), e4, up_n _ (by omega), e3, up_n _ (by omega), e2, up_n _ (by omega), e1, up_n _ (by omega)]; exact hh.1
      · rw [e5, up_n _ (by omega), e4, up_n _ (by omega), e3, up_n _ (by omega), e2, up_n _ (by omega), e1, up_n _ (by omega)]; exact hh.2.1
      · rw [e5, up_n _ (by omega), e4, up_n _ (by omega), e3, up_n _ (by omega), e2, up_n _ (by omega), e1, up_n _ (by omega)]; exact hh.2.2.1
      · rw [e5, up_n _ (by omega), e4, up_n _ (by omega), e3, up_n _ (by omega), e2, up_n _ (by omega), e1, up_n _ (by omega)]; exact hh.2.2.2.1
      · rw [e5, up_n _ (by omega), e4, up_n _ (by omega), e3, up_n _ (by omega), e2, up_n _ (by omega), e1, up_n _ (by omega)]; exact hh.2.2.2.2
theorem R_feed {S : St} {x1 x2 x3 x4 x5 n : Int} {k : Int → St → Prop} (hn : S 0 1 = n) (h0 : 0 ≤ n ∧ n ≤ 4000) (hF : 3980 < n → k (-14) S) (h : n ≤ 3980 → ∀ S', fed S S' n x1 x2 x3 x4 x5 → k (n + 20) S') : wX8_feed S x1 x2 x3 x4 x5 k := by
  unfold wX8_feed wX8_feed_0
  rw [hn, w32_eq (by omega) (by omega)]
  refine ⟨fun c => ?_, fun c => hF (by omega)⟩
  unfold wX8_feed_20
  refine ⟨5, ?_⟩
  have g0 : fedR S S n 0 x1 x2 x3 x4 x5 := ⟨offT.refl S, hn, fun _ _ => rfl, fun q a b => absurd a (by omega)⟩
  refine R_feed_step (S := S) (y := 24) (z := 16) g0 (by omega) (by decide) (by decide) (by decide +kernel) (by decide) (fun S1 g1 => ?_)
  refine R_feed_step (S := S1) (y := 16) (z := 8) g1 (by omega) (by decide) (by decide) (by decide +kernel) (by decide) (fun S2 g2 => ?_)
  refine R_feed_step (S := S2) (y := 8) (z := 0) g2 (by omega) (by decide) (by decide) (by decide +kernel) (by decide) (fun S3 g3 => ?_)
  refine R_feed_step (S := S3) (y := 0) (z := -8) g3 (by omega) (by decide) (by decide) (by decide +kernel) (by decide) (fun S4 g4 => ?_)
  obtain ⟨hf, hn4, hlo, hq⟩ := g4
  show wX8_feed_20_b S4 x1 x2 x3 x4 x5 (-8) _ k
  unfold wX8_feed_20_b
  refine ⟨fun _ S5 e5 => ?_, fun c => absurd c (by decide)⟩
  have e : S5 0 1 = n + 20 := by rw [e5, up_s, hn4, w32_eq (by omega) (by omega)]
  rw [e]
  refine h (by omega) S5 ⟨?_, e, fun j hj => ?_, fun q q0 q1 => ?_⟩
  · subst e5; exact hf.trans offT.up0
  · rw [e5, up_n _ (by omega)]; exact hlo j hj
  · have hh := hq q q0 (by omega)
    rw [e5, up_n _ (by omega), up_n _ (by omega), up_n _ (by omega), up_n _ (by omega), up_n _ (by omega)]
    exact hh
theorem SimT_fed {SC SR SC' SR' : St} {n x1 x2 x3 x4 x5 : Int} (h : SimT SC SR) (hn : SR 0 1 = n) (h1 : n ≤ 3980) (hc : fed SC SC' n x1 x2 x3 x4 x5) (hr : fed SR SR' n x1 x2 x3 x4 x5) : SimT SC' SR' := by
  obtain ⟨s1, s2, s3⟩ := h
  obtain ⟨_, c1, c2, c3⟩ := hc
  obtain ⟨_, r1, r2, r3⟩ := hr
  refine ⟨c1.trans r1.symm, by omega, fun j j0 j1 => ?_⟩
  by_cases hj : j < n
  · rw [c2 j hj, r2 j hj]; exact s3 j j0 (by omega)
  · have hc3 := c3 ((j - n) % 4) (by omega) (by omega)
    have hr3 := r3 ((j - n) % 4) (by omega) (by omega)
    have hd : (j - n) / 4 = 0 ∨ (j - n) / 4 = 1 ∨ (j - n) / 4 = 2 ∨ (j - n) / 4 = 3 ∨ (j - n) / 4 = 4 := by omega
    rcases hd with hd | hd | hd | hd | hd
    · have e : j = n + (j - n) % 4 := by omega
      rw [e, hc3.1, hr3.1]
    · have e : j = n + 4 + (j - n) % 4 := by omega
      rw [e, hc3.2.1, hr3.2.1]
    · have e : j = n + 8 + (j - n) % 4 := by omega
      rw [e, hc3.2.2.1, hr3.2.2.1]
    · have e : j = n + 12 + (j - n) % 4 := by omega
      rw [e, hc3.2.2.2.1, hr3.2.2.2.1]
    · have e : j = n + 16 + (j - n) % 4 := by omega
      rw [e, hc3.2.2.2.2, hr3.2.2.2.2]
