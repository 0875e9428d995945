/-! pure: reading: one member more -/
def rSg (S : St) (b : Int) (D : St) (h M : Int) : Prop := ∀ q, 0 ≤ q → q < M → (0 ≤ S (me b q) 7 ∧ S (me b q) 7 ≤ q) ∧ sou D h (S (me b q) 7) q
/-- a type is open: its head is read, so are its members up to M1 -/
def Op (S : St) (b : Int) (D : St) (h t M0 M1 base : Int) : Prop := Hd S b D h t ∧ RDc S b D h t M0 base ∧ RDm S b D h t M0 M1 base ∧ rSg S b D h M1 ∧ D 25 (24 * h + t) ≤ 8 ∧ LE33 D
section Add
variable {b h t m M0 base : Int} {S D S' D' : St}
theorem ke_of (ht : 0 ≤ t ∧ t < 24) (Kc : RDc S b D h t M0 base) (Kt : RDt S b D h t) (Km : RDm S b D h t M0 m base) : KE D h m := by
  intro m' q m0 m1 q0 q1 q2
  have fin : ∀ u, D 28 (120 * h + m') = u → u < 24 → (∀ k, 0 ≤ k → k < D 13 (24 * h + u) → -1 ≤ D 15 (2 * (24 * h + u) + k) ∧ D 15 (2 * (24 * h + u) + k) ≤ u) → kOK D h u (D 33 (3 * (120 * h + m') + q)) → -3 ≤ kEr D h m' q := by
    intro u eu u24 B k
    unfold kEr bnd
    rw [eu]
    unfold kOK at k
    split
    · rename_i z
      have := B (D 33 (3 * (120 * h + m') + q) - 100) (by omega) (by omega)
      rw [show 2 * (24 * h + u) + D 33 (3 * (120 * h + m') + q) - 100 = 2 * (24 * h + u) + (D 33 (3 * (120 * h + m') + q) - 100) by omega]
      omega
    · omega
  by_cases c : m' < M0
  · have g := Kc.2.1 m' m0 c
    exact fin _ rfl g.1.2.1.2 (Kc.1 _ g.1.2.1.1 g.2.1).2.2.2.1.2 (g.2.2.2 q q0 q1 q2)
  · have g := Km.2.1 m' (by omega) m1
    exact fin t g.2.1 ht.2 Kt.2.2.1.2 (g.2.2.1 q q0 q1 q2)
theorem sou_ag {p q : Int} (d32 : D 32 (120 * h + p) ≤ 2) (d32' : D 32 (120 * h + q) ≤ 2) (e15 : D' 15 = D 15) (e : ∀ a x, x = p ∨ x = q → 28 ≤ a → a ≤ 32 → D' a (120 * h + x) = D a (120 * h + x)) (e33 : ∀ x z, x = p ∨ x = q → 0 ≤ z → z ≤ 2 → D' 33 (3 * (120 * h + x) + z) = D 33 (3 * (120 * h + x) + z)) : sou D' h p q ↔ sou D h p q := by
  have ke : ∀ x z, x = p ∨ x = q → 0 ≤ z → z ≤ 2 → kEr D' h x z = kEr D h x z := fun x z hx z0 z2 => by
    unfold kEr bnd
    rw [e 28 x hx (by decide) (by decide), e33 x z hx z0 z2, e15]
  unfold sou erL
  rw [e 29 p (Or.inl rfl) (by decide) (by decide), e 29 q (Or.inr rfl) (by decide) (by decide), e 32 p (Or.inl rfl) (by decide) (by decide), e 32 q (Or.inr rfl) (by decide) (by decide), ke p 2 (Or.inl rfl) (by decide) (by decide), ke q 2 (Or.inr rfl) (by decide) (by decide)]
  refine ⟨fun ⟨⟨a1, a2, a3⟩, a4⟩ => ⟨⟨a1, a2, fun z z0 z1 => ?_⟩, a4⟩, fun ⟨⟨a1, a2, a3⟩, a4⟩ => ⟨⟨a1, a2, fun z z0 z1 => ?_⟩, a4⟩⟩
  · rw [← ke p z (Or.inl rfl) z0 (by omega), ← ke q z (Or.inr rfl) z0 (by omega)]; exact a3 z z0 z1
  · rw [ke p z (Or.inl rfl) z0 (by omega), ke q z (Or.inr rfl) z0 (by omega)]; exact a3 z z0 z1
theorem Op_add (hb : b = 2 ∨ b = 515) (hh : half01 h) (ht : 0 ≤ t ∧ t < 24) (O : Op S b D h t M0 m base) (m120 : m < 120) (d25 : D 25 (24 * h + t) < 8)
    (fc : ∀ a j, ¬ (a = 1032 ∧ ((4 ≤ j ∧ j ≤ 6) ∨ j = 14)) → ¬ (me b m ≤ a ∧ a ≤ me b m + 2) → ¬ (a = ty b t ∧ j = 17) → ¬ (a = b ∧ j = 3) → S' a j = S a j)
    (fr : ∀ a j, ¬ (a = 0 ∧ ((4 ≤ j ∧ j ≤ 7) ∨ j = 48)) → ¬ ((28 ≤ a ∧ a ≤ 32) ∧ j = 120 * h + m) → ¬ (a = 33 ∧ 3 * (120 * h + m) ≤ j ∧ j < 3 * (120 * h + m) + 3) → ¬ (a = 4 ∧ j = h) → ¬ (a = 25 ∧ j = 24 * h + t) → D' a j = D a j)
    (r0 : S' (me b m) 0 = D' 29 (120 * h + m)) (r1 : S' (me b m) 1 = t) (r2 : S' (me b m) 2 = D' 30 (120 * h + m)) (r3 : S' (me b m) 3 = D' 31 (120 * h + m)) (r4 : S' (me b m) 4 = D' 32 (120 * h + m))
    (rkk : ∀ z, 0 ≤ z → z ≤ 2 → S' (me b m + 1) z = kOr D' h m z (D' 33 (3 * (120 * h + m) + z))) (re : ∀ z, 0 ≤ z → z ≤ 2 → S' (me b m + 2) z = erK S' b t m z) (sg : sigS S' b m (S' (me b m) 7))
    (c17 : S' (ty b t) 17 = S (ty b t) 17 + 1) (c3 : S' b 3 = m + 1) (d28 : D' 28 (120 * h + m) = t) (d32 : 0 ≤ D' 32 (120 * h + m) ∧ D' 32 (120 * h + m) ≤ 2) (d4 : D' 4 h = m + 1) (e25 : D' 25 (24 * h + t) = D 25 (24 * h + t) + 1)
    (ko : ∀ z, 0 ≤ z → z ≤ 2 → (z < 2 → z < D' 32 (120 * h + m)) → kOK D h t (D' 33 (3 * (120 * h + m) + z))) (fa : D 11 (24 * h + t) = 2 → D' 30 (120 * h + m) = 0 ∨ D' 30 (120 * h + m) = 3) (le : LE33 D') : Op S' b D' h t M0 (m + 1) base := by
  have h01 : 0 ≤ h ∧ h ≤ 1 := by unfold half01 at hh; omega
  obtain ⟨Hd1, Kc, Km, Sg, l25, le0⟩ := O
  obtain ⟨Hc1, dv, Kt⟩ := Hd1
  have ke := ke_of ht Kc Kt Km
  obtain ⟨⟨m0, m1, m2⟩, mm, rms, rgs, ⟨q1, q2, q3, q4⟩, ⟨p1, p2, p3, p4⟩⟩ := id Km
  have m0' : 0 ≤ m := by omega
  have eD : ∀ a, 8 ≤ a → a ≤ 24 → D' a = D a := fun a g1 g2 => funext (fun j => fr _ _ (by omega) (by omega) (by omega) (by omega) (by omega))
  have okm : ∀ x, 0 ≤ x → x < m → okM D h x := fun x x0 x1 => by
    by_cases c : x < M0
    · exact (Kc.2.1 x x0 c).1
    · exact (mm x (by omega) x1).1
  have eM : ∀ a x, x < m → 28 ≤ a → a ≤ 32 → D' a (120 * h + x) = D a (120 * h + x) := fun a x x1 g1 g2 => fr _ _ (by omega) (by omega) (by omega) (by omega) (by omega)
  have eK : ∀ x z, x < m → 0 ≤ z → z ≤ 2 → D' 33 (3 * (120 * h + x) + z) = D 33 (3 * (120 * h + x) + z) := fun x z x1 z0 z2 => fr _ _ (by omega) (by omega) (by omega) (by omega) (by omega)
  have so : ∀ p q, 0 ≤ p → p < m → 0 ≤ q → q < m → (sou D' h p q ↔ sou D h p q) := fun p q a1 a2 a3 a4 => sou_ag (okm p a1 a2).2.2.1.2 (okm q a3 a4).2.2.1.2 (eD 15 (by decide) (by decide)) (fun a x hx g1 g2 => eM a x (by omega) g1 g2) (fun x z hx z0 z2 => eK x z (by omega) z0 z2)
  have keq : ∀ x z, 0 ≤ x → x < m → 0 ≤ z → z ≤ 2 → kEr D' h x z = kEr D h x z := fun x z x0 x1 z0 z2 => by
    unfold kEr bnd
    rw [eM 28 x x1 (by decide) (by decide), eK x z x1 z0 z2, eD 15 (by decide) (by decide)]
  have eE : ∀ x y j, 0 ≤ x → x < m → 0 ≤ y → y ≤ 2 → S' (me b x + y) j = S (me b x + y) j := fun x y j x0 x1 y0 y1 => fc _ _ (by unfold me; omega) (by unfold me; omega) (by unfold me ty; omega) (by unfold me; omega)
  have eE0 : ∀ x j, 0 ≤ x → x < m → S' (me b x) j = S (me b x) j := fun x j x0 x1 => by have := eE x 0 j x0 x1 (by decide) (by decide); rwa [Int.add_zero] at this
  have eT : ∀ u y j, 0 ≤ u → u ≤ t → 1 ≤ y → y ≤ 5 → S' (ty b u + y) j = S (ty b u + y) j := fun u y j u0 u1 y0 y1 => fc _ _ (by unfold ty; omega) (by unfold me ty; omega) (by unfold ty; omega) (by unfold ty; omega)
  have eT0 : ∀ j, ¬ j = 17 → S' (ty b t) j = S (ty b t) j := fun j g => fc _ _ (by unfold ty; omega) (by unfold me ty; omega) (by omega) (by unfold ty; omega)
  have Hc' : Hc S' b D' h t := by
    obtain ⟨⟨a1, a2, a3, a4, a5⟩, a6, a7⟩ := Hc1
    refine ⟨⟨?_, ?_, ?_, ?_, ?_⟩, fun u u0 u1 => ?_, ?_⟩
    · rw [fc _ _ (by omega) (by unfold me; omega) (by unfold ty; omega) (by omega)]; exact a1
    · rw [fr _ _ (by omega) (by omega) (by omega) (by omega) (by omega)]; exact a2
    · rw [fc _ _ (by omega) (by unfold me; omega) (by unfold ty; omega) (by omega)]; exact a3
    · rw [fr _ _ (by omega) (by omega) (by omega) (by omega) (by omega)]; exact a4
    · rw [fc _ _ (by omega) (by unfold me; omega) (by unfold ty; omega) (by omega)]; exact a5
    · have q := a6 u u0 u1
      have e0 : ∀ j, S' (ty b u) j = S (ty b u) j := fun j => fc _ _ (by unfold ty; omega) (by unfold me ty; omega) (by unfold ty; omega) (by unfold ty; omega)
      refine ⟨?_, ?_⟩
      · have r := rT_E e0 (fun j => eT u 1 j u0 (by omega) (by decide) (by decide)) (fun j => eT u 2 j u0 (by omega) (by decide) (by decide)) q.1
        unfold rT at r ⊢
        rw [eD 8 (by decide) (by decide), eD 9 (by decide) (by decide), eD 10 (by decide) (by decide), eD 11 (by decide) (by decide), eD 12 (by decide) (by decide), eD 13 (by decide) (by decide), eD 14 (by decide) (by decide), eD 15 (by decide) (by decide)]
        exact r
      · rw [eD 13 (by decide) (by decide)]; exact q.2
    · unfold dst at a7 ⊢
      rw [eD 8 (by decide) (by decide)]; exact a7
  have Kt' : RDt S' b D' h t := by
    have f1 : S' (ty b t + 1) = S (ty b t + 1) := funext (fun j => eT t 1 j ht.1 (Int.le_refl _) (by decide) (by decide))
    have f2 : S' (ty b t + 2) = S (ty b t + 2) := funext (fun j => eT t 2 j ht.1 (Int.le_refl _) (by decide) (by decide))
    have f3 : S' (ty b t + 3) = S (ty b t + 3) := funext (fun j => eT t 3 j ht.1 (Int.le_refl _) (by decide) (by decide))
    have f5 : S' (ty b t + 5) = S (ty b t + 5) := funext (fun j => eT t 5 j ht.1 (Int.le_refl _) (by decide) (by decide))
    unfold RDt rT rR isRf rf rk aOK at Kt ⊢
    rw [eT0 0 (by decide), eT0 1 (by decide), eT0 2 (by decide), eT0 3 (by decide), eT0 4 (by decide), eT0 5 (by decide), eT0 6 (by decide), eT0 9 (by decide), eT0 11 (by decide), eT0 12 (by decide), eT0 14 (by decide), eT0 18 (by decide), eT0 19 (by decide), f1, f2, f3, f5, eD 8 (by decide) (by decide), eD 9 (by decide) (by decide), eD 10 (by decide) (by decide), eD 11 (by decide) (by decide), eD 12 (by decide) (by decide), eD 13 (by decide) (by decide), eD 14 (by decide) (by decide), eD 15 (by decide) (by decide), eD 16 (by decide) (by decide), eD 17 (by decide) (by decide), eD 18 (by decide) (by decide), eD 19 (by decide) (by decide)]
    exact Kt
  have A : AgR D D' h t M0 base := ⟨fun a u ha u0 u1 => fr _ _ (by omega) (by omega) (by omega) (by omega) (by omega), fun a u k ha u0 u1 k0 k1 => fr _ _ (by omega) (by omega) (by omega) (by omega) (by omega), fun u i u0 u1 i0 i1 => fr _ _ (by omega) (by omega) (by omega) (by omega) (by omega), fun a u x ha u0 u1 x0 x1 => fr _ _ (by omega) (by omega) (by omega) (by omega) (by omega), fun u x k u0 u1 x0 x1 k0 k1 => fr _ _ (by omega) (by omega) (by omega) (by omega) (by omega), fun a x g1 g2 x0 x1 => eM a x (by omega) g1 g2, fun x z x0 x1 z0 z2 => eK x z (by omega) z0 z2, fun x z x0 x1 z0 z1 => fr _ _ (by omega) (by omega) (by omega) (by omega) (by omega), fun a i ha i0 i1 => fr _ _ (by omega) (by omega) (by omega) (by omega) (by omega)⟩
  have Kc' : RDc S' b D' h t M0 base := RDc_tr (by omega) (by omega) A ht.1 (fun a j g1 g2 => fc a j (by unfold ty at g2; omega) (by unfold ty at g2; unfold me; omega) (by omega) (by omega)) Kc
  -- the new member
  have okn : okM D' h m := ⟨⟨m0', m120⟩, by rw [d28]; exact ht, d32, fun z _ _ => le _⟩
  have ern : ∀ z, 0 ≤ z → z ≤ 2 → S' (me b m + 2) z = kOr D' h m z (kEr D' h m z) := by
    intro z z0 z2
    rw [re z z0 z2]
    unfold erK
    rw [rkk z z0 z2]
    unfold kOr
    by_cases c : z < 2 ∧ D' 32 (120 * h + m) ≤ z
    · rw [if_pos c, if_pos (by decide), if_pos c]
    · rw [if_neg c, if_neg c]
      have k := ko z z0 z2 (by omega)
      unfold kEr bnd
      rw [d28]
      by_cases c2 : D' 33 (3 * (120 * h + m) + z) < 100
      · rw [if_pos c2, if_neg (by omega)]
      · rw [if_neg c2, if_pos (by omega)]
        unfold kOK at k
        have e := (Kt'.1.2.2.2.2.2.2.2 (D' 33 (3 * (120 * h + m) + z) - 100) (by omega) (by rw [eD 13 (by decide) (by decide)]; omega)).2
        rw [e]
        congr 1
        omega
  have kEn : ∀ z, 0 ≤ z → z ≤ 2 → (z < 2 → z < D' 32 (120 * h + m)) → -3 ≤ kEr D' h m z := by
    intro z z0 z2 zz
    have k := ko z z0 z2 zz
    unfold kEr bnd
    rw [d28]
    unfold kOK at k
    split
    · have e := Kt'.2.2.1.2 (D' 33 (3 * (120 * h + m) + z) - 100) (by omega) (by rw [eD 13 (by decide) (by decide)]; omega)
      rw [show 2 * (24 * h + t) + D' 33 (3 * (120 * h + m) + z) - 100 = 2 * (24 * h + t) + (D' 33 (3 * (120 * h + m) + z) - 100) by omega]
      omega
    · omega
  have KE' : KE D' h (m + 1) := by
    intro x z x0 x1 z0 z2 zz
    by_cases c : x = m
    · rw [c] at zz ⊢; exact kEn z z0 z2 zz
    · rw [eM 32 x (by omega) (by decide) (by decide)] at zz
      rw [keq x z x0 (by omega) z0 z2]
      exact ke x z x0 (by omega) z0 z2 zz
  have rmN : rM S' b D' h m := ⟨r0, by rw [r1, d28], r2, r3, r4, fun z z0 z2 => ⟨rkk z z0 z2, ern z z0 z2⟩⟩
  have rmO : ∀ x, 0 ≤ x → x < m → rM S' b D' h x := by
    intro x x0 x1
    have r := rM_E (fun j => eE0 x j x0 x1) (fun j => eE x 1 j x0 x1 (by decide) (by decide)) (fun j => eE x 2 j x0 x1 (by decide) (by decide)) (rms x x0 x1)
    obtain ⟨w1, w2, w3, w4, w5, w6⟩ := r
    refine ⟨?_, ?_, ?_, ?_, ?_, fun z z0 z2 => ?_⟩
    · rw [eM 29 x x1 (by decide) (by decide)]; exact w1
    · rw [eM 28 x x1 (by decide) (by decide)]; exact w2
    · rw [eM 30 x x1 (by decide) (by decide)]; exact w3
    · rw [eM 31 x x1 (by decide) (by decide)]; exact w4
    · rw [eM 32 x x1 (by decide) (by decide)]; exact w5
    · have w := w6 z z0 z2
      unfold kOr at w ⊢
      rw [eM 32 x x1 (by decide) (by decide), eK x z x1 z0 z2, keq x z x0 x1 z0 z2]
      exact w
  have rmA : rMs S' b D' h (m + 1) := fun x x0 x1 => by
    by_cases c : x = m
    · rw [c]; exact rmN
    · exact rmO x x0 (by omega)
  have okO' : ∀ x, 0 ≤ x → x < m + 1 → okM D' h x := fun x x0 x1 => by
    by_cases c : x = m
    · rw [c]; exact okn
    · obtain ⟨y1, y2, y3, y4⟩ := okm x x0 (by omega)
      refine ⟨y1, ?_, ?_, fun z _ _ => le _⟩
      · rw [eM 28 x (by omega) (by decide) (by decide)]; exact y2
      · rw [eM 32 x (by omega) (by decide) (by decide)]; exact y3
  have eqsou : ∀ u, 0 ≤ u → u < m → (eqR S' b m u ↔ sou D' h m u) := by
    intro u u0 u1
    have ru := rmO u u0 u1
    have i := era_iff (D := D') (h := h) (m := m) (n := u) KE' d32 (okO' u u0 (by omega)).2.2.1 ⟨m0', by omega⟩ ⟨u0, by omega⟩
    unfold eqR sou
    rw [rmN.1, ru.1, (rmN.2.2.2.2.2 0 (by decide) (by decide)).2, (ru.2.2.2.2.2 0 (by decide) (by decide)).2, (rmN.2.2.2.2.2 1 (by decide) (by decide)).2, (ru.2.2.2.2.2 1 (by decide) (by decide)).2, (rmN.2.2.2.2.2 2 (by decide) (by decide)).2, (ru.2.2.2.2.2 2 (by decide) (by decide)).2, ← i]
    have k2 : ∀ x, kOr D' h x 2 (kEr D' h x 2) = kEr D' h x 2 := fun x => by unfold kOr; rw [if_neg (by omega)]
    rw [k2, k2]
    exact ⟨fun ⟨a1, a2, a3, a4⟩ => ⟨⟨a1, a2, a3⟩, a4⟩, fun ⟨⟨a1, a2, a3⟩, a4⟩ => ⟨a1, a2, a3, a4⟩⟩
  have Sg' : ∀ q, 0 ≤ q → q < m → (0 ≤ S' (me b q) 7 ∧ S' (me b q) 7 ≤ q) ∧ sou D' h (S' (me b q) 7) q := by
    intro q q0 q1
    have w := Sg q q0 q1
    rw [eE0 q 7 q0 q1]
    exact ⟨w.1, (so _ q w.1.1 (by omega) q0 q1).mpr w.2⟩
  have rgO : ∀ p q, 0 ≤ p → p < m → 0 ≤ q → q < m → (S' (me b p) 7 = S' (me b q) 7 ↔ sou D' h p q) := fun p q a1 a2 a3 a4 => by
    rw [eE0 p 7 a1 a2, eE0 q 7 a3 a4, so p q a1 a2 a3 a4]
    exact rgs p q a1 a2 a3 a4
  have new : ∀ q, 0 ≤ q → q < m → (S' (me b m) 7 = S' (me b q) 7 ↔ sou D' h m q) := by
    intro q q0 q1
    obtain ⟨g1, g2, g3⟩ := sg
    by_cases c : S' (me b m) 7 < m
    · have sm := (eqsou _ g1.1 c).mp (g2 c)
      constructor
      · intro e
        have w := (Sg' q q0 q1).2
        rw [← e] at w
        exact sou_trans sm w
      · intro w
        have a := (rgO (S' (me b m) 7) q g1.1 c q0 q1).mpr (sou_trans (sou_symm sm) w)
        have bq := Sg' (S' (me b m) 7) g1.1 c
        rw [← a]
        by_cases c2 : S' (me b (S' (me b m) 7)) 7 < S' (me b m) 7
        · exact absurd ((eqsou _ bq.1.1 (by omega)).mpr (sou_trans sm (sou_symm bq.2))) (g3 _ bq.1.1 c2)
        · omega
    · constructor
      · intro e
        have := (Sg' q q0 q1).1
        omega
      · intro w
        exact absurd ((eqsou q q0 q1).mpr w) (g3 q q0 (by omega))
  refine ⟨⟨Hc', ?_, Kt'⟩, Kc', ⟨⟨m0, by omega, by omega⟩, fun x x0 x1 => ?_, rmA, fun p q p0 p1 q0 q1 => ?_, ⟨?_, ?_, c3, ?_⟩, ⟨?_, ?_, d4, ?_⟩⟩, fun q q0 q1 => ?_, by rw [e25]; omega, le⟩
  · unfold dsv at dv ⊢
    rw [eD 13 (by decide) (by decide), eD 14 (by decide) (by decide)]; exact dv
  · by_cases c : x = m
    · rw [c]
      refine ⟨okn, d28, fun z z0 z2 zz => ?_, fun w => fa (by rw [eD 11 (by decide) (by decide)] at w; exact w)⟩
      have := ko z z0 z2 zz
      unfold kOK at this ⊢
      rw [eD 13 (by decide) (by decide)]; exact this
    · have w := mm x x0 (by omega)
      refine ⟨okO' x (by omega) x1, ?_, fun z z0 z2 zz => ?_, fun w2 => ?_⟩
      · rw [eM 28 x (by omega) (by decide) (by decide)]; exact w.2.1
      · rw [eM 32 x (by omega) (by decide) (by decide)] at zz
        rw [eK x z (by omega) z0 z2]
        have := w.2.2.1 z z0 z2 zz
        unfold kOK at this ⊢
        rw [eD 13 (by decide) (by decide)]; exact this
      · rw [eD 11 (by decide) (by decide)] at w2
        rw [eM 30 x (by omega) (by decide) (by decide)]; exact w.2.2.2 w2
  · by_cases cp : p = m
    · by_cases cq : q = m
      · rw [cp, cq]; exact ⟨fun _ => sou_self _ _ _, fun _ => rfl⟩
      · rw [cp]; exact new q q0 (by omega)
    · by_cases cq : q = m
      · rw [cq]
        have := new p p0 (by omega)
        exact ⟨fun e => sou_symm (this.mp e.symm), fun w => (this.mpr (sou_symm w)).symm⟩
      · exact rgO p q p0 (by omega) q0 (by omega)
  · rw [eT0 16 (by decide)]; exact q1
  · rw [c17, q2]; omega
  · rw [fc _ _ (by omega) (by unfold me; omega) (by unfold ty; omega) (by omega)]; exact q4
  · rw [eD 24 (by decide) (by decide)]; exact p1
  · rw [e25, p2]; omega
  · rw [fr _ _ (by omega) (by omega) (by omega) (by omega) (by omega)]; exact p4
  · by_cases c : q = m
    · rw [c]
      refine ⟨sg.1, ?_⟩
      by_cases c2 : S' (me b m) 7 < m
      · exact sou_symm ((eqsou _ sg.1.1 c2).mp (sg.2.1 c2))
      · have := sg.1.2
        rw [show S' (me b m) 7 = m by omega]
        exact sou_self _ _ _
    · exact Sg' q q0 (by omega)
end Add
