/-! pure: reading: a type's head: frames; VARS -/
def fCt (S S' : St) (b t : Int) : Prop := ∀ a j, ¬ (a = 1032 ∧ ((4 ≤ j ∧ j ≤ 6) ∨ j = 11 ∨ j = 13)) → ¬ (a = ty b t ∧ 1 ≤ j ∧ j ≤ 15) → ¬ (ty b t < a ∧ a < ty b t + 6) → S' a j = S a j
def inTy (h t a j : Int) : Prop := (a = 0 ∧ 4 ≤ j ∧ j ≤ 7) ∨ ((a = 12 ∨ a = 13 ∨ a = 16 ∨ a = 19) ∧ j = 24 * h + t) ∨ ((a = 14 ∨ a = 15) ∧ 2 * (24 * h + t) ≤ j ∧ j < 2 * (24 * h + t) + 2) ∨ (a = 17 ∧ 5 * (24 * h + t) ≤ j ∧ j < 5 * (24 * h + t) + 5) ∨ (a = 18 ∧ 10 * (24 * h + t) ≤ j ∧ j < 10 * (24 * h + t) + 10)
def fRt (D D' : St) (h t : Int) : Prop := ∀ a j, ¬ inTy h t a j → D' a j = D a j
/-- the state behind a type's NAME, up to its { -/
def Hc (S : St) (b : Int) (D : St) (h t : Int) : Prop := (S 1032 3 = b ∧ D 0 10 = h ∧ S b 1 = t + 1 ∧ D 3 h = t ∧ S 1032 12 = ty b t) ∧ (∀ u, 0 ≤ u → u < t → rT S b D h u ∧ 0 ≤ D 13 (24 * h + u) ∧ D 13 (24 * h + u) ≤ 2) ∧ dst D h t
def Hd (S : St) (b : Int) (D : St) (h t : Int) : Prop := Hc S b D h t ∧ dsv D h t ∧ RDt S b D h t
section Head
variable {T te so va pl : Int → Int} {n N i b h t q v bd : Int} {S S' S1 D D' D1 : St}
theorem fCt.tr (a : fCt S S1 b t) (c : fCt S1 S' b t) : fCt S S' b t := fun x j g1 g2 g3 => (c x j g1 g2 g3).trans (a x j g1 g2 g3)
theorem fRt.tr (a : fRt D D1 h t) (c : fRt D1 D' h t) : fRt D D' h t := fun x j g => (c x j g).trans (a x j g)
theorem fCt_Ad (o : offAd S S') : fCt S S' b t := fun a j g _ _ => o a j (by omega)
theorem fRt_N (o : offN D D') : fRt D D' h t := fun a j g => o a j (fun w => g (Or.inl w))
theorem offFam_t (hb : b = 2 ∨ b = 515) (ht : 0 ≤ t ∧ t < 24) (o : fCt S S' b t) : offFam S S' b :=
  ⟨fun a j g1 g2 => o a j (by omega) (by unfold ty; omega) (by unfold ty; omega), fun u u0 u1 => o _ _ (by unfold ty; omega) (by omega) (by unfold ty; omega)⟩
theorem inH_t {a j : Int} (ht : 0 ≤ t ∧ t < 24) (w : inTy h t a j) : inH h a j := by
  unfold inTy at w
  unfold inH
  rcases w with w | w | w | w | w
  · exact Or.inl ⟨w.1, Or.inl (by omega)⟩
  · exact Or.inr (Or.inr (Or.inr (Or.inl (by omega))))
  · exact Or.inr (Or.inr (Or.inr (Or.inr (Or.inl (by omega)))))
  · exact Or.inr (Or.inr (Or.inr (Or.inr (Or.inr (Or.inl (by omega))))))
  · exact Or.inr (Or.inr (Or.inr (Or.inr (Or.inr (Or.inr (Or.inl (by omega)))))))
theorem offH_t (ht : 0 ≤ t ∧ t < 24) (o : fRt D D' h t) : offH D D' h := ⟨fun a j g => o a j (fun w => g (inH_t ht w)), fun w j => by rw [o 33 j (by unfold inTy; omega)]; exact w j⟩
theorem Hc_tr (hb : b = 2 ∨ b = 515) (ht : 0 ≤ t ∧ t < 24) (H : Hc S b D h t) (c : fCt S S' b t) (r : fRt D D' h t) : Hc S' b D' h t := by
  obtain ⟨⟨a1, a2, a3, a4, a5⟩, a6, a7⟩ := H
  refine ⟨⟨?_, ?_, ?_, ?_, ?_⟩, fun u u0 u1 => ?_, fun u w u0 u1 u2 => ?_⟩
  · rw [c _ _ (by omega) (by unfold ty; omega) (by unfold ty; omega)]; exact a1
  · rw [r _ _ (by unfold inTy; omega)]; exact a2
  · rw [c _ _ (by omega) (by unfold ty; omega) (by unfold ty; omega)]; exact a3
  · rw [r _ _ (by unfold inTy; omega)]; exact a4
  · rw [c _ _ (by omega) (by unfold ty; omega) (by unfold ty; omega)]; exact a5
  · obtain ⟨⟨g0, g1, g2, g3, g4, g5, g6, g7⟩, g8, g9⟩ := a6 u u0 u1
    have e : ∀ y j, 0 ≤ y → y ≤ 5 → S' (ty b u + y) j = S (ty b u + y) j := fun y j y0 y1 => c _ _ (by unfold ty; omega) (by unfold ty; omega) (by unfold ty; omega)
    have e0 : ∀ j, S' (ty b u) j = S (ty b u) j := fun j => by have := e 0 j (by decide) (by decide); rwa [Int.add_zero] at this
    have d : ∀ a, 8 ≤ a → a ≤ 13 → D' a (24 * h + u) = D a (24 * h + u) := fun a x y => r _ _ (by unfold inTy; omega)
    refine ⟨⟨?_, ?_, ?_, ?_, ?_, ?_, ?_, fun k k0 k1 => ?_⟩, ?_, ?_⟩
    · rw [e0]; exact g0
    · rw [e0, d 8 (by decide) (by decide)]; exact g1
    · rw [e0, d 9 (by decide) (by decide)]; exact g2
    · rw [e0, d 10 (by decide) (by decide)]; exact g3
    · rw [e0, d 11 (by decide) (by decide)]; exact g4
    · rw [e0, d 12 (by decide) (by decide)]; exact g5
    · rw [e0, d 13 (by decide) (by decide)]; exact g6
    · rw [d 13 (by decide) (by decide)] at k1
      rw [e 1 k (by decide) (by decide), e 2 k (by decide) (by decide), r 14 _ (by unfold inTy; omega), r 15 _ (by unfold inTy; omega)]
      exact g7 k k0 k1
    · rw [d 13 (by decide) (by decide)]; exact g8
    · rw [d 13 (by decide) (by decide)]; exact g9
  · rw [r 8 _ (by unfold inTy; omega), r 8 _ (by unfold inTy; omega)]
    exact a7 u w u0 u1 u2
theorem Hc_nm (H : Hc S b D h t) (K : rT S b D h t) : ∀ u, 0 ≤ u → u ≤ t → S (ty b u) 1 = D 8 (24 * h + u) ∧ S (ty b u) 3 = D 10 (24 * h + u) := by
  intro u u0 u1
  by_cases c : u = t
  · rw [c]; exact ⟨K.2.1, K.2.2.2.1⟩
  · have g := (H.2.1 u u0 (by omega)).1
    exact ⟨g.2.1, g.2.2.2.1⟩
/-- a VAR is read: what changes -/
def VC (S S' : St) (b t q v bd : Int) : Prop := (S' (ty b t) 6 = q + 1 ∧ S' (ty b t + 1) q = v ∧ S' (ty b t + 2) q = bd ∧ S' (ty b t + 5) (2 * t + q) = 100 + q) ∧ ∀ a j, ¬ (a = 1032 ∧ 4 ≤ j ∧ j ≤ 6) → ¬ (a = ty b t ∧ j = 6) → ¬ (a = ty b t + 1 ∧ j = q) → ¬ (a = ty b t + 2 ∧ j = q) → ¬ (a = ty b t + 5 ∧ j = 2 * t + q) → S' a j = S a j
def VR (D D' : St) (h t q v bd : Int) : Prop := (D' 13 (24 * h + t) = q + 1 ∧ D' 14 (2 * (24 * h + t) + q) = v ∧ D' 15 (2 * (24 * h + t) + q) = bd) ∧ ∀ a j, ¬ (a = 0 ∧ 4 ≤ j ∧ j ≤ 7) → ¬ (a = 13 ∧ j = 24 * h + t) → ¬ ((a = 14 ∨ a = 15) ∧ j = 2 * (24 * h + t) + q) → D' a j = D a j
theorem fCt_VC (q0 : 0 ≤ q) (w : VC S S' b t q v bd) : fCt S S' b t := fun a j g1 g2 g3 => w.2 a j (by omega) (by omega) (by omega) (by omega) (by omega)
theorem fRt_VR (q2 : 0 ≤ q ∧ q < 2) (w : VR D D' h t q v bd) : fRt D D' h t := fun a j g => w.2 a j (fun z => g (by unfold inTy; omega)) (fun z => g (by unfold inTy; omega)) (fun z => g (by unfold inTy; omega))
theorem Hd_var (hb : b = 2 ∨ b = 515) (ht : 0 ≤ t ∧ t < 24) (H : Hd S b D h t) (z16 : D 16 (24 * h + t) = 0) (ek : D 13 (24 * h + t) = q) (q2 : q < 2) (nv : ∀ r, ¬ vnm D h t v r) (hbd : -1 ≤ bd ∧ bd ≤ t) (c : VC S S' b t q v bd) (r : VR D D' h t q v bd) : Hd S' b D' h t := by
  obtain ⟨H1, H2, H3⟩ := H
  obtain ⟨⟨g0, g1, g2, g3, g4, g5, g6, g7⟩, ⟨r1, r2, r3⟩, ⟨b1, b2⟩, ⟨f1, f2, f3⟩, ⟨k1, k2, k3⟩, bt, ow, fm, pr⟩ := H3
  have q0 : 0 ≤ q := by omega
  have cf := fCt_VC q0 c
  have rf' := fRt_VR ⟨q0, q2⟩ r
  obtain ⟨⟨c6, cn, cb, c5⟩, co⟩ := c
  obtain ⟨⟨d13, d14, d15⟩, dof⟩ := r
  have ex : ∀ j, ¬ j = 6 → S' (ty b t) j = S (ty b t) j := fun j g => co _ _ (by unfold ty; omega) (by omega) (by omega) (by omega) (by omega)
  have dx : ∀ a j, ¬ a = 0 → ¬ a = 13 → ¬ a = 14 → ¬ a = 15 → D' a j = D a j := fun a j g1 g2 g3 g4 => dof a j (by omega) (by omega) (by omega)
  refine ⟨Hc_tr hb ht H1 cf rf', fun x y x0 x1 x2 => ?_, ⟨?_, ?_, ?_, ?_, ?_, ?_, ?_, fun k k0 k1 => ?_⟩, ⟨?_, fun x x0 x1 => ?_, ?_⟩, ⟨?_, fun k k0 k1 => ?_⟩, ⟨?_, fun x x0 x1 => ?_, fun x y x0 x1 x2 => ?_⟩, ⟨?_, ?_, ?_⟩, fun x x0 x1 => ?_, fun k k0 k1 => ?_, ?_, ?_⟩
  · rw [d13] at x2
    by_cases cy : y = q
    · rw [cy, d14, dof 14 _ (by omega) (by omega) (by omega)]
      exact fun w => nv x ⟨⟨x0, by omega⟩, w⟩
    · rw [dof 14 _ (by omega) (by omega) (by omega), dof 14 _ (by omega) (by omega) (by omega)]
      exact H2 x y x0 x1 (by omega)
  · rw [ex 0 (by decide)]; exact g0
  · rw [ex 1 (by decide), dx 8 _ (by decide) (by decide) (by decide) (by decide)]; exact g1
  · rw [ex 2 (by decide), dx 9 _ (by decide) (by decide) (by decide) (by decide)]; exact g2
  · rw [ex 3 (by decide), dx 10 _ (by decide) (by decide) (by decide) (by decide)]; exact g3
  · rw [ex 4 (by decide), dx 11 _ (by decide) (by decide) (by decide) (by decide)]; exact g4
  · rw [ex 5 (by decide), dx 12 _ (by decide) (by decide) (by decide) (by decide)]; exact g5
  · rw [c6, d13]
  · rw [d13] at k1
    by_cases ck : k = q
    · rw [ck, cn, cb, d14, d15]; exact ⟨rfl, rfl⟩
    · rw [co _ _ (by unfold ty; omega) (by omega) (by omega) (by omega) (by omega), co _ _ (by unfold ty; omega) (by omega) (by omega) (by omega) (by omega), dof 14 _ (by omega) (by omega) (by omega), dof 15 _ (by omega) (by omega) (by omega)]
      exact g7 k k0 (by omega)
  · rw [ex 9 (by decide), dx 16 _ (by decide) (by decide) (by decide) (by decide)]; exact r1
  · rw [dx 16 _ (by decide) (by decide) (by decide) (by decide), z16] at x1; omega
  · rw [ex 11 (by decide), dx 19 _ (by decide) (by decide) (by decide) (by decide)]; exact r3
  · rw [d13]; omega
  · rw [d13] at k1
    by_cases ck : k = q
    · rw [ck, d15]; exact hbd
    · rw [dof 15 _ (by omega) (by omega) (by omega)]; exact b2 k k0 (by omega)
  · rw [dx 16 _ (by decide) (by decide) (by decide) (by decide)]; exact f1
  · rw [dx 16 _ (by decide) (by decide) (by decide) (by decide), z16] at x1; omega
  · rw [dx 16 _ (by decide) (by decide) (by decide) (by decide), z16] at x2; omega
  · rw [ex 12 (by decide)]; exact k1
  · rw [ex 18 (by decide)]; exact k2
  · rw [ex 19 (by decide)]; exact k3
  · have := bt x x0 x1
    unfold isRf rf at this ⊢
    rw [ex 14 (by decide), dx 16 _ (by decide) (by decide) (by decide) (by decide), show D' 17 = D 17 from funext (fun j => dx 17 j (by decide) (by decide) (by decide) (by decide))]
    exact this
  · rw [d13] at k1
    by_cases ck : k = q
    · rw [ck]; exact c5
    · rw [co _ _ (by unfold ty; omega) (by omega) (by omega) (by omega) (by omega)]; exact ow k k0 (by omega)
  · rw [dx 11 _ (by decide) (by decide) (by decide) (by decide)]; exact fm
  · left
    rw [dx 19 _ (by decide) (by decide) (by decide) (by decide)]
    rcases pr with w | w
    · exact w
    · omega
end Head
