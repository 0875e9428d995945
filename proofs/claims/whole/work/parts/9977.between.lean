/-! pure: reading: between items; a type begins, a type ends -/
def Bt (S : St) (b : Int) (D : St) (h t M base : Int) : Prop := ((S 1032 3 = b ∧ D 0 10 = h ∧ S b 1 = t ∧ D 3 h = t) ∧ 0 ≤ t ∧ t ≤ 24) ∧ (∀ u v, 0 ≤ u → u < v → v < t → ¬ D 8 (24 * h + u) = D 8 (24 * h + v)) ∧ RDc S b D h t M base ∧ (rMs S b D h M ∧ rGs S b D h M ∧ rSg S b D h M) ∧ ((S b 3 = M ∧ S b 7 = base) ∧ D 4 h = M ∧ D 5 h = base) ∧ (0 ≤ M ∧ M ≤ 120) ∧ LE33 D
def Pq (S : St) (b : Int) (D : St) (h np : Int) : Prop := Pk S b D h np ∧ S 1032 9 = D 0 46 ∧ S 1032 10 = D 0 47
def pF (S S' : St) (b : Int) : Prop := S' 1033 = S 1033 ∧ S' b 8 = S b 8 ∧ S' 1032 9 = S 1032 9 ∧ S' 1032 10 = S 1032 10 ∧ S' 1032 7 = S 1032 7
def pG (D D' : St) (h : Int) : Prop := D' 6 h = D 6 h ∧ D' 7 = D 7 ∧ D' 0 46 = D 0 46 ∧ D' 0 47 = D 0 47
def nmb (S : St) (b : Int) : Prop := ∀ u, 0 ≤ u → u < 24 → S (ty b u) 0 = u
section Between
variable {b h t m M M0 M1 base np : Int} {S D S' D' E : St}
theorem Pq.tr (P : Pq S b D h np) (f : pF S S' b) (g : pG D D' h) : Pq S' b D' h np := by
  obtain ⟨p1, p2, p3⟩ := P
  obtain ⟨f1, f2, f3, f4, _⟩ := f
  obtain ⟨g1, g2, g3, g4⟩ := g
  refine ⟨?_, ?_, ?_⟩
  · unfold Pk at p1 ⊢
    rw [f1, f2, g1, g2]; exact p1
  · rw [f3, g3]; exact p2
  · rw [f4, g4]; exact p3
theorem nmb.tr (n : nmb S b) (o : offFam S S' b) : nmb S' b := fun u u0 u1 => (o.2 u u0 u1).trans (n u u0 u1)
theorem pF_t (hb : b = 2 ∨ b = 515) (ht : 0 ≤ t ∧ t < 24) (c : fCt S S' b t) : pF S S' b := ⟨funext (fun j => c _ _ (by omega) (by unfold ty; omega) (by unfold ty; omega)), c _ _ (by omega) (by unfold ty; omega) (by unfold ty; omega), c _ _ (by omega) (by unfold ty; omega) (by unfold ty; omega), c _ _ (by omega) (by unfold ty; omega) (by unfold ty; omega), c _ _ (by omega) (by unfold ty; omega) (by unfold ty; omega)⟩
theorem pG_t (r : fRt D D' h t) : pG D D' h := ⟨r _ _ (by unfold inTy; omega), funext (fun j => r _ _ (by unfold inTy; omega)), r _ _ (by unfold inTy; omega), r _ _ (by unfold inTy; omega)⟩
theorem pF_m (hb : b = 2 ∨ b = 515) (ht : 0 ≤ t ∧ t < 24) (hm : 0 ≤ m ∧ m ≤ 120) (c : ∀ a j, ¬ (a = 1032 ∧ ((4 ≤ j ∧ j ≤ 6) ∨ j = 14)) → ¬ (me b m ≤ a ∧ a ≤ me b m + 2) → ¬ (a = ty b t ∧ j = 17) → ¬ (a = b ∧ j = 3) → S' a j = S a j) : pF S S' b ∧ offFam S S' b :=
  ⟨⟨funext (fun j => c _ _ (by omega) (by unfold me; omega) (by unfold ty; omega) (by omega)), c _ _ (by omega) (by unfold me; omega) (by unfold ty; omega) (by omega), c _ _ (by omega) (by unfold me; omega) (by unfold ty; omega) (by omega), c _ _ (by omega) (by unfold me; omega) (by unfold ty; omega) (by omega), c _ _ (by omega) (by unfold me; omega) (by unfold ty; omega) (by omega)⟩, fun a j g1 g2 => c a j (by omega) (by unfold me; omega) (by unfold ty; omega) (by omega), fun u u0 u1 => c _ _ (by unfold ty; omega) (by unfold ty me; omega) (by omega) (by unfold ty; omega)⟩
theorem pG_m (hm : 0 ≤ m ∧ m < 120) (ht : 0 ≤ t ∧ t < 24) (l : LE33 D') (c : ∀ a j, ¬ (a = 0 ∧ ((4 ≤ j ∧ j ≤ 7) ∨ j = 48)) → ¬ ((28 ≤ a ∧ a ≤ 32) ∧ j = 120 * h + m) → ¬ (a = 33 ∧ 3 * (120 * h + m) ≤ j ∧ j < 3 * (120 * h + m) + 3) → ¬ (a = 4 ∧ j = h) → ¬ (a = 25 ∧ j = 24 * h + t) → D' a j = D a j) : pG D D' h ∧ offH D D' h := by
  refine ⟨⟨c _ _ (by omega) (by omega) (by omega) (by omega) (by omega), funext (fun j => c _ _ (by omega) (by omega) (by omega) (by omega) (by omega)), c _ _ (by omega) (by omega) (by omega) (by omega) (by omega), c _ _ (by omega) (by omega) (by omega) (by omega) (by omega)⟩, fun a j g => c a j (fun w => g ?_) (fun w => g ?_) (fun w => g ?_) (fun w => g ?_) (fun w => g ?_), fun _ => l⟩
  · exact Or.inl ⟨w.1, by omega⟩
  · exact Or.inr (Or.inr (Or.inr (Or.inr (Or.inr (Or.inr (Or.inr (Or.inr (Or.inr (Or.inl (by clear g; omega))))))))))
  · exact Or.inr (Or.inr (Or.inr (Or.inr (Or.inr (Or.inr (Or.inr (Or.inr (Or.inr (Or.inr (Or.inl (by clear g; omega)))))))))))
  · exact Or.inr (Or.inl (by clear g; omega))
  · exact Or.inr (Or.inr (Or.inr (Or.inl (by clear g; omega))))
theorem RDt_E (e : ∀ c, 0 ≤ c → c ≤ 5 → E (ty b t + c) = S (ty b t + c)) (K : RDt S b D h t) : RDt E b D h t := by
  have e0 : E (ty b t) = S (ty b t) := by have := e 0 (by decide) (by decide); rwa [Int.add_zero] at this
  unfold RDt rT rR at K ⊢
  rw [e0, e 1 (by decide) (by decide), e 2 (by decide) (by decide), e 3 (by decide) (by decide), e 5 (by decide) (by decide)]
  exact K
theorem rMs_E (e : ∀ q c j, 0 ≤ q → q < M → 0 ≤ c → c ≤ 2 → E (me b q + c) j = S (me b q + c) j) (r : rMs S b D h M) (g : rGs S b D h M) (s : rSg S b D h M) : rMs E b D h M ∧ rGs E b D h M ∧ rSg E b D h M := by
  have e0 : ∀ q j, 0 ≤ q → q < M → E (me b q) j = S (me b q) j := fun q j q0 q1 => by have := e q 0 j q0 q1 (by decide) (by decide); rwa [Int.add_zero] at this
  refine ⟨fun m m0 m1 => rM_E (fun j => e0 m j m0 m1) (fun j => e m 1 j m0 m1 (by decide) (by decide)) (fun j => e m 2 j m0 m1 (by decide) (by decide)) (r m m0 m1), fun m q m0 m1 q0 q1 => ?_, fun q q0 q1 => ?_⟩
  · rw [e0 m 7 m0 m1, e0 q 7 q0 q1]; exact g m q m0 m1 q0 q1
  · rw [e0 q 7 q0 q1]; exact s q q0 q1
theorem rMs_D (e15 : D' 15 = D 15) (eD : ∀ a, 28 ≤ a → a ≤ 33 → D' a = D a) (r : rMs S b D h M) (g : rGs S b D h M) (s : rSg S b D h M) : rMs S b D' h M ∧ rGs S b D' h M ∧ rSg S b D' h M := by
  have so : ∀ p q, sou D' h p q ↔ sou D h p q := fun p q => sou_c e15 (eD 28 (by decide) (by decide)) (eD 29 (by decide) (by decide)) (eD 32 (by decide) (by decide)) (eD 33 (by decide) (by decide))
  refine ⟨?_, fun m q m0 m1 q0 q1 => ?_, fun q q0 q1 => ?_⟩
  · unfold rMs rM kOr kEr bnd at r ⊢
    rw [e15, eD 28 (by decide) (by decide), eD 29 (by decide) (by decide), eD 30 (by decide) (by decide), eD 31 (by decide) (by decide), eD 32 (by decide) (by decide), eD 33 (by decide) (by decide)]
    exact r
  · rw [so]; exact g m q m0 m1 q0 q1
  · rw [so]; exact s q q0 q1
theorem RD_of (hb : b = 2 ∨ b = 515) (hh : half01 h) (ht : 0 ≤ t ∧ t < 24) (O : Op S b D h t M0 M1 base) (e : ∀ a j, ¬ a = 1034 → E a j = S a j) (c0 : E 1034 0 = b) (c1 : E 1034 1 = ty b t) : RD E b D h t M0 M1 base := by
  obtain ⟨Hd1, Kc, Km, Sg, l25, le0⟩ := O
  obtain ⟨k1, k2, k3, k4, ⟨k5, k6, k7, k8⟩, k9⟩ := Km
  have w := rMs_E (E := E) (fun q c j q0 q1 c0 c1 => e _ _ (by unfold me; omega)) k3 k4 Sg
  refine ⟨⟨hb, hh, ht, Hd1.1.1.2.1, c0, c1⟩, RDc_tr (by omega) (by omega) (AgR_all (fun _ _ _ => rfl)) ht.1 (fun a j g1 g2 => e a j (by unfold ty at g2; omega)) Kc, RDt_E (fun c c0 c1 => funext (fun j => e _ _ (by unfold ty; omega))) Hd1.2.2, k1, k2, w.1, w.2.1, ⟨?_, ?_, ?_, ?_⟩, k9⟩
  · rw [e _ _ (by unfold ty; omega)]; exact k5
  · rw [e _ _ (by unfold ty; omega)]; exact k6
  · rw [e _ _ (by omega)]; exact k7
  · rw [e _ _ (by omega)]; exact k8
/-- a type's NAME is read -/
theorem Op_new {f : Int} (hb : b = 2 ∨ b = 515) (hh : half01 h) (ht : 0 ≤ t ∧ t < 24) (hf : 0 ≤ f ∧ f ≤ 2) (B : Bt S b D h t M base) (nn : nmb S b) (W : TN S S' D D' b h t f M) : Op S' b D' h t M M base ∧ pF S S' b ∧ pG D D' h ∧ offFam S S' b ∧ offH D D' h ∧ D' 16 (24 * h + t) = 0 ∧ D' 13 (24 * h + t) = 0 ∧ D' 11 (24 * h + t) = f ∧ S' 1032 11 = 1 := by
  have h01 : 0 ≤ h ∧ h ≤ 1 := by unfold half01 at hh; omega
  obtain ⟨⟨⟨a1, a2, a3, a4⟩, a5⟩, a6, Kc, ⟨a7, a8, a9⟩, ⟨⟨b1, b2⟩, b3, b4⟩, b5, b6⟩ := B
  obtain ⟨⟨⟨x1, x2, x3⟩, ⟨x4, x4'⟩, ⟨x5, x5'⟩, x6, x6'⟩, ⟨⟨y1, y2, y3, y4⟩, ⟨y5, y6, y7, y8, y9⟩, z1, z2, z3⟩, nd, ⟨c1, c2, c3⟩, fc, fr⟩ := W
  have eD : ∀ a u, u < t → 8 ≤ a → a ≤ 36 → (a = 14 ∨ a = 15 ∨ a = 17 ∨ a = 18 ∨ a = 20 ∨ a = 21 ∨ a = 22 ∨ a = 23 ∨ 26 ≤ a) → D' a u = D a u := fun a u _ g1 g2 g3 => fr a u (by omega) (by omega)
  have eF : ∀ a, (a = 14 ∨ a = 15 ∨ a = 17 ∨ a = 18 ∨ a = 20 ∨ a = 21 ∨ a = 22 ∨ a = 23 ∨ 26 ≤ a) → D' a = D a := fun a g => funext (fun u => fr a u (by omega) (by omega))
  have A : AgR D D' h t M base := ⟨fun a u ha u0 u1 => fr _ _ (by omega) (by omega), fun a u k ha u0 u1 k0 k1 => fr _ _ (by omega) (by omega), fun u i u0 u1 i0 i1 => fr _ _ (by omega) (by omega), fun a u x ha u0 u1 x0 x1 => fr _ _ (by omega) (by omega), fun u x k u0 u1 x0 x1 k0 k1 => fr _ _ (by omega) (by omega), fun a x g1 g2 x0 x1 => fr _ _ (by omega) (by omega), fun x z x0 x1 z0 z2 => fr _ _ (by omega) (by omega), fun x z x0 x1 z0 z1 => fr _ _ (by omega) (by omega), fun a i ha i0 i1 => fr _ _ (by omega) (by omega)⟩
  have Kc' : RDc S' b D' h t M base := RDc_tr (by omega) b5.2 A ht.1 (fun a j g1 g2 => fc a j (by unfold ty at g2; omega) (by omega) (by omega)) Kc
  have e0 : S' (ty b t) 0 = t := by rw [fc _ _ (by unfold ty; omega) (by unfold ty; omega) (by omega)]; exact nn t ht.1 ht.2
  have fam : offFam S S' b := ⟨fun a j g1 g2 => fc a j (by omega) (by omega) (by unfold ty; omega), fun u u0 u1 => fc _ _ (by unfold ty; omega) (by unfold ty; omega) (by omega)⟩
  have hal : offH D D' h := ⟨fun a j g => fr a j (fun w => g (Or.inl ⟨w.1, by omega⟩)) (fun w => g (Or.inr (Or.inr (Or.inr (Or.inl ⟨by clear g; omega, by clear g; omega, by clear g; omega⟩))))), fun w j => by rw [fr 33 j (by omega) (by omega)]; exact w j⟩
  have rm := rMs_D (eF 15 (by decide)) (fun a g1 g2 => eF a (by omega)) a7 a8 a9
  have rm2 := rMs_E (E := S') (fun q c j q0 q1 c0 c1 => fc _ _ (by unfold me; omega) (by unfold me; omega) (by unfold me ty; omega)) rm.1 rm.2.1 rm.2.2
  refine ⟨⟨⟨⟨⟨?_, ?_, c1, ?_, c3⟩, fun u u0 u1 => ?_, fun u v u0 u1 u2 => ?_⟩, fun k l k0 k1 k2 => ?_, ⟨e0, x1, x2, x3, ?_, ?_, ?_, fun k k0 k1 => ?_⟩, ⟨?_, fun k k0 k1 => ?_, ?_⟩, ⟨?_, fun k k0 k1 => ?_⟩, ⟨?_, fun k k0 k1 => ?_, fun k l k0 k1 k2 => ?_⟩, ⟨y5, y8, y9⟩, fun x x0 x1 => ?_, fun k k0 k1 => ?_, ?_, ?_⟩, Kc', ⟨⟨b5.1, Int.le_refl _, b5.2⟩, fun x x0 x1 => ?_, rm2.1, rm2.2.1, ⟨z1, ?_, ?_, ?_⟩, ⟨z2, ?_, ?_, ?_⟩⟩, rm2.2.2, ?_, ?_⟩, ⟨funext (fun j => fc _ _ (by omega) (by omega) (by unfold ty; omega)), fc _ _ (by omega) (by omega) (by unfold ty; omega), fc _ _ (by omega) (by omega) (by unfold ty; omega), fc _ _ (by omega) (by omega) (by unfold ty; omega), fc _ _ (by omega) (by omega) (by unfold ty; omega)⟩, ⟨fr _ _ (by omega) (by omega), funext (fun j => fr _ _ (by omega) (by omega)), fr _ _ (by omega) (by omega), fr _ _ (by omega) (by omega)⟩, fam, hal, y2, x6', x4', c2⟩
  · rw [fc _ _ (by omega) (by omega) (by unfold ty; omega)]; exact a1
  · rw [fr _ _ (by omega) (by omega)]; exact a2
  · rw [fr _ _ (by omega) (by omega)]; exact a4
  · have q := Kc'.1 u u0 u1
    exact ⟨q.2.2.1.1, q.2.2.2.1.1⟩
  · by_cases cv : v = t
    · rw [cv, fr 8 (24 * h + u) (by omega) (by omega)]
      exact fun w => nd ⟨u, ⟨u0, by omega⟩, w⟩
    · rw [fr 8 (24 * h + u) (by omega) (by omega), fr 8 (24 * h + v) (by omega) (by omega)]
      exact a6 u v u0 u1 (by omega)
  · rw [x6'] at k2; omega
  · rw [x4, x4']
  · rw [x5, x5', nn t ht.1 ht.2]
  · rw [x6, x6']
  · rw [x6'] at k1; omega
  · rw [y1, y2]
  · rw [y2] at k1; omega
  · rw [y4, if_pos rfl]; exact y3
  · rw [x6']; decide
  · rw [x6'] at k1; omega
  · rw [y2]; decide
  · rw [y2] at k1; omega
  · rw [y2] at k2; omega
  · rw [y6]
    refine ⟨fun w => absurd w (bit_0 ⟨x0, by assumption⟩), fun w => ?_⟩
    obtain ⟨n, n0, n1, _⟩ := w
    rw [y2] at n1; omega
  · rw [x6'] at k1; omega
  · rw [x4']; exact hf
  · exact Or.inl y4
  · omega
  · rw [y7]; omega
  · rw [fc _ _ (by omega) (by omega) (by unfold ty; omega)]; exact b1
  · rw [fc _ _ (by omega) (by omega) (by unfold ty; omega)]; exact b2
  · rw [z3]; omega
  · rw [fr _ _ (by omega) (by omega)]; exact b3
  · rw [fr _ _ (by omega) (by omega)]; exact b4
  · rw [z3]; decide
  · exact hal.2 b6
end Between
