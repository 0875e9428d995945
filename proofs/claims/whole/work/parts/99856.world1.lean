/-! the start: a family's cells, the class's cells -/
theorem arrV_cg {cI : ClassId} {N : Nat} {f f' : Nat → Value} (h : ∀ j, j < N → f j = f' j) : arrV cI N f = arrV cI N f' := by
  unfold arrV
  congr 1
  congr 1
  funext j
  exact h j.val j.isLt
theorem vp_refcg {cI : ClassId} {N : Nat} {f g : Nat → Option Nat} (h : ∀ j, j < N → f j = g j) : vp_cell cI (N, .inr (.inr (.inr (.inr f)))) = vp_cell cI (N, .inr (.inr (.inr (.inr g)))) := by
  show arrV cI N (fun j => va_rf (f j)) = arrV cI N (fun j => va_rf (g j))
  exact arrV_cg (fun j hj => by rw [h j hj])
theorem at_ref {D : va_G} {cI : ClassId} {N q : Nat} {f g : Nat → Option Nat} {H : Heap} (h : ∀ j, j < N → f j = g j) (hh : va_at D vwCl (q, .inl (cI, N, .inr (.inr (.inr (.inr f))))) H) : va_at D vwCl (q, .inl (cI, N, .inr (.inr (.inr (.inr g))))) H := by
  have h1 : H[q]? = some (vp_cell cI (N, .inr (.inr (.inr (.inr f))))) := hh
  show H[q]? = some (vp_cell cI (N, .inr (.inr (.inr (.inr g)))))
  rw [h1, vp_refcg h]
theorem kT2 : ∀ t, t < 24 → kd (2 + (6 + 6 * t)) = 6 ∧ (kd (2 + (6 + 6 * t) + 1) = 22 ∧ ln (2 + (6 + 6 * t) + 1) = 2) ∧ (kd (2 + (6 + 6 * t) + 2) = 21 ∧ ln (2 + (6 + 6 * t) + 2) = 2) ∧ (kd (2 + (6 + 6 * t) + 3) = 21 ∧ ln (2 + (6 + 6 * t) + 3) = 4) ∧ (kd (2 + (6 + 6 * t) + 4) = 21 ∧ ln (2 + (6 + 6 * t) + 4) = 24) ∧ (kd (2 + (6 + 6 * t) + 5) = 21 ∧ ln (2 + (6 + 6 * t) + 5) = 48) := by decide +kernel
theorem kT5 : ∀ t, t < 24 → kd (515 + (6 + 6 * t)) = 6 ∧ (kd (515 + (6 + 6 * t) + 1) = 22 ∧ ln (515 + (6 + 6 * t) + 1) = 2) ∧ (kd (515 + (6 + 6 * t) + 2) = 21 ∧ ln (515 + (6 + 6 * t) + 2) = 2) ∧ (kd (515 + (6 + 6 * t) + 3) = 21 ∧ ln (515 + (6 + 6 * t) + 3) = 4) ∧ (kd (515 + (6 + 6 * t) + 4) = 21 ∧ ln (515 + (6 + 6 * t) + 4) = 24) ∧ (kd (515 + (6 + 6 * t) + 5) = 21 ∧ ln (515 + (6 + 6 * t) + 5) = 48) := by decide +kernel
theorem kM2 : ∀ t, t < 121 → kd (2 + (150 + 3 * t)) = 3 ∧ (kd (2 + (150 + 3 * t) + 1) = 21 ∧ ln (2 + (150 + 3 * t) + 1) = 3) ∧ (kd (2 + (150 + 3 * t) + 2) = 21 ∧ ln (2 + (150 + 3 * t) + 2) = 3) := by decide +kernel
theorem kM5 : ∀ t, t < 121 → kd (515 + (150 + 3 * t)) = 3 ∧ (kd (515 + (150 + 3 * t) + 1) = 21 ∧ ln (515 + (150 + 3 * t) + 1) = 3) ∧ (kd (515 + (150 + 3 * t) + 2) = 21 ∧ ln (515 + (150 + 3 * t) + 2) = 3) := by decide +kernel
theorem kF2 : kd 2 = 2 ∧ (kd 3 = 24 ∧ ln 3 = 24) ∧ (kd 4 = 25 ∧ ln 4 = 121) ∧ (kd 5 = 22 ∧ ln 5 = 242) ∧ (kd 6 = 21 ∧ ln 6 = 2880) ∧ kd 7 = 21 ∧ ln 7 = 2880 := by decide +kernel
theorem kF5 : kd 515 = 2 ∧ (kd 516 = 24 ∧ ln 516 = 24) ∧ (kd 517 = 25 ∧ ln 517 = 121) ∧ (kd 518 = 22 ∧ ln 518 = 242) ∧ (kd 519 = 21 ∧ ln 519 = 2880) ∧ kd 520 = 21 ∧ ln 520 = 2880 := by decide +kernel
section World1
variable {G : GG} {H : Heap}
theorem fam_cells {b : Nat} (hb : b = 2 ∨ b = 515) (kf : kd b = 2 ∧ (kd (b + 1) = 24 ∧ ln (b + 1) = 24) ∧ (kd (b + 2) = 25 ∧ ln (b + 2) = 121) ∧ (kd (b + 3) = 22 ∧ ln (b + 3) = 242) ∧ (kd (b + 4) = 21 ∧ ln (b + 4) = 2880) ∧ kd (b + 5) = 21 ∧ ln (b + 5) = 2880)
    (kt : ∀ t, t < 24 → kd (b + (6 + 6 * t)) = 6 ∧ (kd (b + (6 + 6 * t) + 1) = 22 ∧ ln (b + (6 + 6 * t) + 1) = 2) ∧ (kd (b + (6 + 6 * t) + 2) = 21 ∧ ln (b + (6 + 6 * t) + 2) = 2) ∧ (kd (b + (6 + 6 * t) + 3) = 21 ∧ ln (b + (6 + 6 * t) + 3) = 4) ∧ (kd (b + (6 + 6 * t) + 4) = 21 ∧ ln (b + (6 + 6 * t) + 4) = 24) ∧ (kd (b + (6 + 6 * t) + 5) = 21 ∧ ln (b + (6 + 6 * t) + 5) = 48))
    (km : ∀ t, t < 121 → kd (b + (150 + 3 * t)) = 3 ∧ (kd (b + (150 + 3 * t) + 1) = 21 ∧ ln (b + (150 + 3 * t) + 1) = 3) ∧ (kd (b + (150 + 3 * t) + 2) = 21 ∧ ln (b + (150 + 3 * t) + 2) = 3))
    (hP : va_P G.1 vwCl (vX2 G (G.2.2 b) (fun x => G.2.2 (b + x))) H) : ∀ k, k < 513 → va_at G.1 vwCl (G.2.2 (b + k), cel G S00 (b + k)) H := by
  have hF := vP_left (vP_left hP)
  have hT := TLs_in (G := G) 24 (vP_right (vP_left hP))
  have hM := MLs_in (G := G) 121 (vP_right hP)
  obtain ⟨f0, f1, f2, f3, f4, f5⟩ := kf
  intro k hk
  by_cases c1 : k < 6
  · have zb : ∀ (r : Nat) (j : Int), r ≤ 5 → S00 ((b + r : Nat) : Int) j = 0 := fun r j hr => by rw [S00_c (by omega), C0_r (by omega) (by omega) (by omega)]
    match k, c1 with
    | 0, _ =>
      have z : ∀ j : Int, S00 b j = 0 := fun j => zb 0 j (by omega)
      have e0 : cel G S00 b = .inr (2, [.ref (G.2.2 (b + 1)), .int 0, .ref (G.2.2 (b + 2)), .int 0, .ref (G.2.2 (b + 3)), .ref (G.2.2 (b + 4)), .ref (G.2.2 (b + 5)), .int 0, .int 0]) := by
        rw [cel_o f0 (by decide)]
        show Sum.inr (2, [Value.ref (G.2.2 (b + 1)), .int (i32 (S00 b 1)), .ref (G.2.2 (b + 2)), .int (i32 (S00 b 3)), .ref (G.2.2 (b + 3)), .ref (G.2.2 (b + 4)), .ref (G.2.2 (b + 5)), .int (i32 (S00 b 7)), .int (i32 (S00 b 8))]) = _
        rw [z 1, z 3, z 7, z 8]
        rfl
      rw [Nat.add_zero, e0]; exact hF 0 _ rfl
    | 1, _ =>
      have e1 : cel G S00 (b + 1) = .inl (G.2.1 4, 24, .inr (.inr (.inr (.inr (fun j => some (G.2.2 (b + 1 + 5 + 6 * j))))))) := by
        unfold cel arw
        rw [f1.1, f1.2, if_neg (by decide)]
        rfl
      rw [e1]
      refine at_ref (f := fT (fun j r => G.2.2 (b + (6 + 6 * j + r))) 24) (fun j hj => ?_) (hF 1 _ rfl)
      unfold fT
      rw [if_pos hj]
      show some (G.2.2 (b + (6 + 6 * j + 0))) = _
      rw [show b + (6 + 6 * j + 0) = b + 1 + 5 + 6 * j by omega]
    | 2, _ =>
      have e1 : cel G S00 (b + 2) = .inl (G.2.1 5, 121, .inr (.inr (.inr (.inr (fun j => some (G.2.2 (b + 2 + 148 + 3 * j))))))) := by
        unfold cel arw
        rw [f2.1, f2.2, if_neg (by decide)]
        rfl
      rw [e1]
      refine at_ref (f := fT (fun j r => G.2.2 (b + (150 + 3 * j + r))) 121) (fun j hj => ?_) (hF 2 _ rfl)
      unfold fT
      rw [if_pos hj]
      show some (G.2.2 (b + (150 + 3 * j + 0))) = _
      rw [show b + (150 + 3 * j + 0) = b + 2 + 148 + 3 * j by omega]
    | 3, _ => rw [cel_L f3.1 f3.2 (fun j => zb 3 j (by omega))]; exact hF 3 _ rfl
    | 4, _ => rw [cel_I f4.1 f4.2 (fun j => zb 4 j (by omega))]; exact hF 4 _ rfl
    | 5, _ => rw [cel_I f5.1 f5.2 (fun j => zb 5 j (by omega))]; exact hF 5 _ rfl
  · by_cases c2 : k < 150
    · obtain ⟨t, r, ht, hr, ek⟩ : ∃ t r, t < 24 ∧ r < 6 ∧ k = 6 + 6 * t + r := ⟨(k - 6) / 6, (k - 6) % 6, by omega, by omega, by omega⟩
      obtain ⟨k0, k1, k2, k3, k4, k5⟩ := kt t ht
      have q := hT t ht
      have e : (fun r => G.2.2 (b + (6 + 6 * t + r))) = fun r => G.2.2 (b + (6 + 6 * t) + r) := funext (fun r => by rw [show b + (6 + 6 * t + r) = b + (6 + 6 * t) + r by omega])
      have q' : va_P G.1 vwCl (vX6 G (G.2.2 (b + (6 + 6 * t))) (nI t) (fun r => G.2.2 (b + (6 + 6 * t) + r))) H := by
        have q2 : va_P G.1 vwCl (vX6 G (G.2.2 (b + (6 + 6 * t + 0))) (nI t) (fun r => G.2.2 (b + (6 + 6 * t + r)))) H := q
        rw [e, Nat.add_zero] at q2
        exact q2
      have z0 : S00 ((b + (6 + 6 * t) : Nat) : Int) 0 = t := by
        rw [S00_c (by omega)]
        rcases hb with w | w
        · rw [show ((b + (6 + 6 * t) : Nat) : Int) = ty 2 t by unfold ty; omega]; exact C0_n2 ⟨by omega, by omega⟩
        · rw [show ((b + (6 + 6 * t) : Nat) : Int) = ty 515 t by unfold ty; omega]; exact C0_n5 ⟨by omega, by omega⟩
      rw [ek, show b + (6 + 6 * t + r) = b + (6 + 6 * t) + r by omega]
      exact ty_cells ht k0 k1 k2 k3 k4 k5 z0 (fun j hj => by rw [S00_c (by omega), C0_r (by omega) (by omega) (by omega)]) (fun r j r1 r5 => by rw [S00_c (by omega), C0_r (by omega) (by omega) (by omega)]) q' r hr
    · obtain ⟨t, r, ht, hr, ek⟩ : ∃ t r, t < 121 ∧ r < 3 ∧ k = 150 + 3 * t + r := ⟨(k - 150) / 3, (k - 150) % 3, by omega, by omega, by omega⟩
      obtain ⟨k0, k1, k2⟩ := km t ht
      have q := hM t ht
      have e : (fun r => G.2.2 (b + (150 + 3 * t + r))) = fun r => G.2.2 (b + (150 + 3 * t) + r) := funext (fun r => by rw [show b + (150 + 3 * t + r) = b + (150 + 3 * t) + r by omega])
      have q' : va_P G.1 vwCl (vX3 G (G.2.2 (b + (150 + 3 * t))) (fun r => G.2.2 (b + (150 + 3 * t) + r))) H := by
        have q2 : va_P G.1 vwCl (vX3 G (G.2.2 (b + (150 + 3 * t + 0))) (fun r => G.2.2 (b + (150 + 3 * t + r)))) H := q
        rw [e, Nat.add_zero] at q2
        exact q2
      rw [ek, show b + (150 + 3 * t + r) = b + (150 + 3 * t) + r by omega]
      exact me_cells k0 k1 k2 (fun r j r2 => by rw [S00_c (by omega), C0_r (by omega) (by omega) (by omega)]) q' r hr
end World1
