/-! pure: feed -/
theorem put_step {S : St} {x y n : Int} {P : Int → St → Prop} {k : St → Prop} (hn : S 0 1 = n) (h0 : 0 ≤ n) (h1 : n < 4000) (hy : 0 ≤ y) (hy2 : y ≤ 24) (h : P (y - 8) (up (up S 1 n (sb8 (sb8 (ushr32 x y)))) 0 1 (n + 1))) : wX7_put_3_b S x y P k := by
  unfold wX7_put_3_b
  refine ⟨fun c => absurd c (by omega), fun _ => ⟨fun c => absurd c (by omega), fun _ => ⟨by omega, fun S1 e1 S2 e2 z ez => ?_⟩⟩⟩
  subst e1; subst e2; subst ez
  rw [hn]
  have e3 : (up S 1 n (sb8 (sb8 (ushr32 x y)))) 0 1 = n := by rw [up_n S (by omega), hn]
  rw [e3, w32_eq (by omega) (by omega), w32_eq (by omega) (by omega)]
  exact h
theorem put_end {S : St} {x y : Int} {P : Int → St → Prop} {k : St → Prop} (hy : y < 0) (h : k S) : wX7_put_3_b S x y P k := by
  unfold wX7_put_3_b
  exact ⟨fun _ => h, fun c => absurd c (by omega)⟩
/-- S' is S with four bytes of x behind its n -/
def put4 (S S' : St) (n x : Int) : Prop := offT S S' ∧ S' 0 1 = n + 4 ∧ (∀ j, j < n → S' 1 j = S 1 j) ∧ S' 1 n = byt x 0 ∧ S' 1 (n + 1) = byt x 1 ∧ S' 1 (n + 2) = byt x 2 ∧ S' 1 (n + 3) = byt x 3
theorem C_put {S : St} {x n : Int} {k : St → Prop} (hn : S 0 1 = n) (h0 : 0 ≤ n) (h4 : n + 4 ≤ 4000) (h : ∀ S', put4 S S' n x → k S') : wX7_put S x k := by
  unfold wX7_put wX7_put_0 wX7_put_3
  refine ⟨5, ?_⟩
  obtain ⟨S1, e1⟩ : ∃ z, z = up (up S 1 n (sb8 (sb8 (ushr32 x 24)))) 0 1 (n + 1) := ⟨_, rfl⟩
  obtain ⟨S2, e2⟩ : ∃ z, z = up (up S1 1 (n + 1) (sb8 (sb8 (ushr32 x 16)))) 0 1 (n + 1 + 1) := ⟨_, rfl⟩
  obtain ⟨S3, e3⟩ : ∃ z, z = up (up S2 1 (n + 1 + 1) (sb8 (sb8 (ushr32 x 8)))) 0 1 (n + 1 + 1 + 1) := ⟨_, rfl⟩
  obtain ⟨S4, e4⟩ : ∃ z, z = up (up S3 1 (n + 1 + 1 + 1) (sb8 (sb8 (ushr32 x 0)))) 0 1 (n + 1 + 1 + 1 + 1) := ⟨_, rfl⟩
  refine put_step (S := S) (y := 24) hn h0 (by omega) (by decide) (by decide) ?_
  rw [← e1]
  refine put_step (S := S1) (y := 16) (n := n + 1) (by rw [e1]; exact up_s _ _ _ _) (by omega) (by omega) (by decide) (by decide) ?_
  rw [← e2]
  refine put_step (S := S2) (y := 8) (n := n + 1 + 1) (by rw [e2]; exact up_s _ _ _ _) (by omega) (by omega) (by decide) (by decide) ?_
  rw [← e3]
  refine put_step (S := S3) (y := 0) (n := n + 1 + 1 + 1) (by rw [e3]; exact up_s _ _ _ _) (by omega) (by omega) (by decide) (by decide) ?_
  rw [← e4]
  refine put_end (S := S4) (y := -8) (by decide) ?_
  subst e1; subst e2; subst e3; subst e4
  apply h
  refine ⟨?_, ?_, ?_, ?_, ?_, ?_, ?_⟩
  · intro a j h1 h2
    simp [up, h1, h2]
  · rw [up_s]; omega
  · intro j hj
    have e1 : ¬ j = n := by omega
    have e2 : ¬ j = n + 1 := by omega
    have e3 : ¬ j = n + 1 + 1 := by omega
    have e4 : ¬ j = n + 1 + 1 + 1 := by omega
    simp [up, e1, e2, e3, e4]
  · have e2 : ¬ n = n + 1 := by omega
    have e3 : ¬ n = n + 1 + 1 := by omega
    have e4 : ¬ n = n + 1 + 1 + 1 := by omega
    simp [up, e2, e3, e4, byt]
  · have e3 : ¬ n + 1 = n + 1 + 1 := by omega
    have e4 : ¬ n + 1 = n + 1 + 1 + 1 := by omega
    simp [up, e3, e4, byt]
  · have e0 : n + 2 = n + 1 + 1 := by omega
    have e4 : ¬ n + 1 + 1 = n + 1 + 1 + 1 := by omega
    rw [e0]
    simp [up, e4, byt]
  · have e0 : n + 3 = n + 1 + 1 + 1 := by omega
    rw [e0]
    simp [up, byt]
theorem put4_q {S S' : St} {n x : Int} (h : put4 S S' n x) {q : Int} (h0 : 0 ≤ q) (h1 : q < 4) : S' 1 (n + q) = byt x q := by
  obtain ⟨_, _, _, p0, p1, p2, p3⟩ := h
  have hq : q = 0 ∨ q = 1 ∨ q = 2 ∨ q = 3 := by omega
  rcases hq with rfl | rfl | rfl | rfl
  · rw [Int.add_zero]; exact p0
  · exact p1
  · exact p2
  · exact p3
/-- S' is S with twenty bytes behind its n -/
def fed (S S' : St) (n x1 x2 x3 x4 x5 : Int) : Prop := offT S S' ∧ S' 0 1 = n + 20 ∧ (∀ j, j < n → S' 1 j = S 1 j) ∧ ∀ q : Int, 0 ≤ q → q < 4 → S' 1 (n + q) = byt x1 q ∧ S' 1 (n + 4 + q) = byt x2 q ∧ S' 1 (n + 8 + q) = byt x3 q ∧ S' 1 (n + 12 + q) = byt x4 q ∧ S' 1 (n + 16 + q) = byt x5 q
theorem C_feed {S : St} {x1 x2 x3 x4 x5 n : Int} {k : Int → St → Prop} (hn : S 0 1 = n) (h0 : 0 ≤ n ∧ n ≤ 4000) (hF : 3980 < n → k (-14) S) (h : n ≤ 3980 → ∀ S', fed S S' n x1 x2 x3 x4 x5 → k (n + 20) S') : wX7_feed S x1 x2 x3 x4 x5 k := by
  unfold wX7_feed wX7_feed_0
  rw [hn, w32_eq (by omega) (by omega)]
  refine ⟨fun c => ?_, fun c => hF (by omega)⟩
  refine C_put hn h0.1 (by omega) (fun S1 p1 => ?_)
  refine C_put (n := n + 4) p1.2.1 (by omega) (by omega) (fun S2 p2 => ?_)
  refine C_put (n := n + 8) (p2.2.1.trans (by omega)) (by omega) (by omega) (fun S3 p3 => ?_)
  refine C_put (n := n + 12) (p3.2.1.trans (by omega)) (by omega) (by omega) (fun S4 p4 => ?_)
  refine C_put (n := n + 16) (p4.2.1.trans (by omega)) (by omega) (by omega) (fun S5 p5 => ?_)
  have e : S5 0 1 = n + 20 := p5.2.1.trans (by omega)
  rw [e]
  refine h (by omega) S5 ⟨p1.1.trans (p2.1.trans (p3.1.trans (p4.1.trans p5.1))), e, fun j hj => ?_, fun q q0 q1 => ⟨?_, ?_, ?_, ?_, ?_⟩⟩
  · rw [p5.2.2.1 j (by omega), p4.2.2.1 j (by omega), p3.2.2.1 j (by omega), p2.2.2.1 j (by omega), p1.2.2.1 j hj]
  · rw [p5.2.2.1 _ (by omega), p4.2.2.1 _ (by omega), p3.2.2.1 _ (by omega), p2.2.2.1 _ (by omega)]; exact put4_q p1 q0 q1
  · rw [p5.2.2.1 _ (by omega), p4.2.2.1 _ (by omega), p3.2.2.1 _ (by omega)]; exact put4_q p2 q0 q1
  · rw [p5.2.2.1 _ (by omega), p4.2.2.1 _ (by omega)]; exact put4_q p3 q0 q1
  · rw [p5.2.2.1 _ (by omega)]; exact put4_q p4 q0 q1
  · exact put4_q p5 q0 q1
