/-! pure: reading: what is closed stays while more is read -/
section RdcTr
variable {E E' D D' : St} {b h t M0 base : Int}
theorem clU_tr {u : Int} (t24 : t ≤ 24) (A : AgR D D' h t M0 base) (e : ∀ a j, b + 3 ≤ a → a < ty b t → E' a j = E a j) (K : RDc E b D h t M0 base) (u0 : 0 ≤ u) (u1 : u < t) : clU E' b D' h u M0 base := by
  have cm := K.2.1
  have v13 : ∀ u', 0 ≤ u' → u' < t → 0 ≤ D 13 (24 * h + u') ∧ D 13 (24 * h + u') ≤ 2 := fun u' a c => (K.1 u' a c).2.2.2.1.1
  obtain ⟨⟨hT, hU, hV⟩, ⟨n1, n2, n3⟩, rt, vb, ar⟩ := K.1 u u0 u1
  have hF := hT.2.1
  have hB := hT.2.2.1
  have I : inR D h t M0 base u := ⟨⟨u0, u1⟩, n1, n2, fun i i0 i1 => ⟨n3 i i0 i1, (cm _ (hT.2.2.2.2 i i0 i1).1.1 (n3 i i0 i1)).2.1⟩, fun m m0 m1 => (cm m (by omega) (by omega)).2.1⟩
  have e13 := A.1 13 u (by omega) u0 u1
  have e24 := A.1 24 u (by omega) u0 u1
  have e25 := A.1 25 u (by omega) u0 u1
  have e26 := A.1 26 u (by omega) u0 u1
  have e27 := A.1 27 u (by omega) u0 u1
  have e20 := A.1 20 u (by omega) u0 u1
  have J : ∀ i, D 26 (24 * h + u) ≤ i → i < D 26 (24 * h + u) + D 27 (24 * h + u) → D 35 (7200 * h + i) < M0 := fun i i0 i1 => by
    have := (hV.2.2.2.2.2.1 i i0 i1).1
    omega
  refine ⟨⟨tr_okT A I hT, tr_okU A (by omega) hT I J hU, tr_okV A (by omega) hT hU I hV⟩, ⟨?_, ?_, ?_⟩, ?_, ⟨?_, fun k k0 k1 => ?_⟩, ?_⟩
  · rw [e24, e25]; exact n1
  · rw [e26, e27]; exact n2
  · rw [e26, e27]
    intro i i0 i1
    rw [A.2.2.2.2.2.2.2.2 36 i (Or.inr rfl) (by omega) (by omega)]
    exact n3 i i0 i1
  · have r := tr_rTy A (by omega) ⟨u0, u1⟩ (fun u' a c => v13 u' a (by omega)) hV.2.1 hU.2.1.2 (fun x x0 x1 z => (hV.2.2.2.2.2.2 x x0 x1 z).1) rt
    have eq : ∀ c j, 0 ≤ c → c ≤ 5 → E' (ty b u + c) j = E (ty b u + c) j := fun c j h1 h2 => e _ _ (by unfold ty; omega) (by unfold ty; omega)
    have eq0 : ∀ j, E' (ty b u) j = E (ty b u) j := fun j => by have := eq 0 j (by decide) (by decide); rwa [Int.add_zero] at this
    have eq1 := fun j => eq 1 j (by decide) (by decide)
    have eq2 := fun j => eq 2 j (by decide) (by decide)
    have eq3 := fun j => eq 3 j (by decide) (by decide)
    have eq4 := fun j => eq 4 j (by decide) (by decide)
    have eq5 := fun j => eq 5 j (by decide) (by decide)
    exact ⟨rT_E eq0 eq1 eq2 r.1, rR_E eq0 eq3 r.2.1, rF_E eq0 r.2.2.1, rA_E eq0 eq4 r.2.2.2.1, rS_E eq5 r.2.2.2.2.1, rB_E eq0 r.2.2.2.2.2⟩
  · rw [e13]; exact vb.1
  · rw [e13] at k1
    rw [A.2.1 15 u k (Or.inr rfl) u0 u1 k0 (by omega)]
    exact vb.2 k k0 k1
  · rw [e20]
    intro i i0 i1
    have ub := hU.2.2.1 i i0 i1
    have eab : ab D' h u i = ab D h u i := A.2.2.2.1 21 u i (Or.inl rfl) u0 u1 i0 (by have := hU.2.1.2; omega)
    have g := ar i i0 i1
    rw [eab, A.2.2.2.1 22 u _ (Or.inr rfl) u0 u1 ub.1 (by omega), A.1 13 (ab D h u i) (by omega) ub.1 (by omega)]
    refine ⟨g.1, fun k k0 k1 => ?_⟩
    have vx := v13 _ ub.1 (by omega)
    have q := g.2 k k0 k1
    unfold sVar at q ⊢
    rw [A.2.2.2.2.1 u _ k u0 u1 ub.1 (by omega) k0 (by omega)]
    unfold aOK at q ⊢
    rw [e13]; exact q
theorem RDc_tr (t24 : t ≤ 24) (hM : M0 ≤ 120) (A : AgR D D' h t M0 base) (t0 : 0 ≤ t) (e : ∀ a j, b + 3 ≤ a → a < ty b t → E' a j = E a j) (K : RDc E b D h t M0 base) : RDc E' b D' h t M0 base := by
  have hO : ∀ m n, hasO E' b m n ↔ hasO E b m n := fun m n => by
    have : E' (b + 3) = E (b + 3) := funext (fun j => e _ _ (by omega) (by unfold ty; omega))
    unfold hasO
    rw [this]
  have oV : ∀ o n, 0 ≤ o → o < M0 → 0 ≤ n → n < 120 → (ovr D' h o n ↔ ovr D h o n) := fun o n o0 o1 n0 n1 => by
    unfold ovr
    rw [A.2.2.2.2.2.2.2.1 o n o0 o1 n0 n1]
  refine ⟨fun u u0 u1 => clU_tr t24 A e K u0 u1, fun m m0 m1 => ?_, fun i i0 i1 => ?_, K.2.2.2.1, fun o n o0 o1 n0 n1 => ?_, fun o n o0 o1 n0 n1 z => ?_, fun o n o0 o1 n0 n1 => ?_, fun m n m0 m1 n0 n1 w z => K.2.2.2.2.2.2.2 m n m0 m1 n0 n1 w ((hO m n).mp z)⟩
  · have g := K.2.1 m m0 m1
    have g28 := g.1.2.1
    rw [A.2.2.2.2.2.1 28 m (by decide) (by decide) m0 m1, A.2.2.2.2.2.1 32 m (by decide) (by decide) m0 m1, A.1 24 _ (by omega) g28.1 g.2.1, A.1 25 _ (by omega) g28.1 g.2.1]
    refine ⟨tr_okM A ⟨m0, m1⟩ g.1, g.2.1, g.2.2.1, fun q q0 q1 q2 => ?_⟩
    have k := g.2.2.2 q q0 q1 q2
    unfold kOK at k ⊢
    rw [A.2.2.2.2.2.2.1 m q m0 m1 q0 q1, A.1 13 _ (by omega) g28.1 g.2.1]
    exact k
  · have g := K.2.2.1 i i0 i1
    rw [e _ _ (by omega) (by unfold ty; omega), e _ _ (by omega) (by unfold ty; omega), A.2.2.2.2.2.2.2.2 35 i (Or.inl rfl) i0 i1, A.2.2.2.2.2.2.2.2 36 i (Or.inr rfl) i0 i1]
    exact g
  · rw [hO, oV o n o0 o1 n0 (by omega)]
    exact K.2.2.2.2.1 o n o0 o1 n0 n1
  · have g := K.2.2.2.2.2.1 o n o0 o1 n0 n1 ((oV o n o0 o1 n0 n1).mp z)
    refine ⟨g.1, ?_⟩
    have g2 := g.2
    unfold bare at g2 ⊢
    rw [A.2.2.2.2.2.1 31 n (by decide) (by decide) n0 (by omega), A.2.2.2.2.2.1 30 n (by decide) (by decide) n0 (by omega)]
    exact g2
  · rw [A.2.2.2.2.2.2.2.1 o n o0 o1 n0 n1]
    exact K.2.2.2.2.2.2.1 o n o0 o1 n0 n1
/-- nothing of the rows has changed -/
theorem AgR_all {n nm nb : Int} (o : ∀ a, 8 ≤ a → a ≤ 36 → D' a = D a) : AgR D D' h n nm nb := by
  refine ⟨fun a u ha _ _ => ?_, fun a u k ha _ _ _ _ => ?_, fun u i _ _ _ _ => ?_, fun a u x ha _ _ _ _ => ?_, fun u x k _ _ _ _ _ _ => ?_, fun a m h1 h2 _ _ => ?_, fun m q _ _ _ _ => ?_, fun m q _ _ _ _ => ?_, fun a i ha _ _ => ?_⟩
  · rw [o a (by omega) (by omega)]
  · rw [o a (by omega) (by omega)]
  · rw [o 17 (by omega) (by omega)]
  · rw [o a (by omega) (by omega)]
  · rw [o 23 (by omega) (by omega)]
  · rw [o a (by omega) (by omega)]
  · rw [o 33 (by omega) (by omega)]
  · rw [o 34 (by omega) (by omega)]
  · rw [o a (by omega) (by omega)]
/-- members, as they are kept -/
theorem rMs_tr {nm : Int} (A : AgR D D' h t nm base) (ok : ∀ m, 0 ≤ m → m < nm → okM D h m ∧ D 28 (120 * h + m) < t) (e : ∀ a j, me b 0 ≤ a → a < me b nm → E' a j = E a j) (r : rMs E b D h nm) (g : rGs E b D h nm) : rMs E' b D' h nm ∧ rGs E' b D' h nm := by
  have eq : ∀ m c j, 0 ≤ m → m < nm → 0 ≤ c → c ≤ 2 → E' (me b m + c) j = E (me b m + c) j := fun m c j h1 h2 h3 h4 => e _ _ (by unfold me; omega) (by unfold me; omega)
  have eq0 : ∀ m j, 0 ≤ m → m < nm → E' (me b m) j = E (me b m) j := fun m j h1 h2 => by have := eq m 0 j h1 h2 (by decide) (by decide); rwa [Int.add_zero] at this
  refine ⟨fun m m0 m1 => ?_, fun m q m0 m1 q0 q1 => ?_⟩
  · exact rM_E (fun j => eq0 m j m0 m1) (fun j => eq m 1 j m0 m1 (by decide) (by decide)) (fun j => eq m 2 j m0 m1 (by decide) (by decide)) (tr_rM A ⟨m0, m1⟩ (ok m m0 m1).1 (ok m m0 m1).2 (r m m0 m1))
  · rw [eq0 m 7 m0 m1, eq0 q 7 q0 q1, tr_sou A ⟨m0, m1⟩ ⟨q0, q1⟩ (ok m m0 m1).1 (ok q q0 q1).1 (ok m m0 m1).2 (ok q q0 q1).2]
    exact g m q m0 m1 q0 q1
end RdcTr
