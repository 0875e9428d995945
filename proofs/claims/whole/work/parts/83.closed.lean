/-! pure: close: what stands behind it -/
def fDe (D D3 : St) : Prop := ∀ a, (a < 20 ∨ 23 < a) → ¬ a = 34 → ¬ a = 5 → ¬ a = 26 → ¬ a = 27 → ¬ a = 35 → ¬ a = 36 → D3 a = D a
def fR5 (D D3 : St) (h t base : Int) (L : List (Int × Int)) : Prop := (∀ j, ¬ j = h → D3 5 j = D 5 j) ∧ (∀ j, ¬ j = 24 * h + t → D3 26 j = D 26 j ∧ D3 27 j = D 27 j) ∧ (D3 5 h = base + L.length ∧ D3 26 (24 * h + t) = base ∧ D3 27 (24 * h + t) = L.length) ∧ (∀ i : Nat, i < L.length → D3 35 (7200 * h + (base + i)) = (L.getD i (0, 0)).1 ∧ D3 36 (7200 * h + (base + i)) = (L.getD i (0, 0)).2) ∧ ∀ j, j < 7200 * h + base ∨ 7200 * h + 2880 ≤ j → D3 35 j = D 35 j ∧ D3 36 j = D 36 j
def fSe (E S' : St) (b t : Int) : Prop := ∀ a j, ¬ (a = b ∧ j = 7) → ¬ a = b + 3 → ¬ a = b + 4 → ¬ a = b + 5 → ¬ (a = ty b t ∧ (j = 12 ∨ j = 14 ∨ j = 18 ∨ j = 19)) → ¬ a = ty b t + 4 → ¬ a = ty b t + 5 → ¬ (a = 1034 ∧ j = 4) → ¬ a = 1035 → ¬ a = 1036 → S' a j = E a j
theorem wL_case {D : St} {h t : Int} : ∀ (n : Nat) (e : Int × Int × Int), e ∈ wL D h t n → ∃ m : Int, (0 ≤ m ∧ m < n) ∧ (e = w1 D h t m ∨ ∃ k : Int, (0 ≤ k ∧ k < D 20 (24 * h + rf D h t m)) ∧ e = w2 D h t m k) := by
  have two : ∀ (m : Int) (i : Nat) (e : Int × Int × Int), e ∈ w2L D h t m i → ∃ k : Int, (0 ≤ k ∧ k < i) ∧ e = w2 D h t m k := by
    intro m i
    induction i with
    | zero => intro e he; exact absurd he List.not_mem_nil
    | succ i ih =>
      intro e he
      rcases List.mem_append.mp he with g | g
      · obtain ⟨k, h1, h2⟩ := ih e g
        exact ⟨k, ⟨h1.1, by omega⟩, h2⟩
      · exact ⟨i, by omega, List.mem_singleton.mp g⟩
  intro n
  induction n with
  | zero => intro e he; exact absurd he List.not_mem_nil
  | succ n ih =>
    intro e he
    rcases List.mem_append.mp he with g | g
    · rcases List.mem_append.mp g with g | g
      · obtain ⟨m, h1, h2⟩ := ih e g
        exact ⟨m, ⟨h1.1, by omega⟩, h2⟩
      · exact ⟨n, by omega, Or.inl (List.mem_singleton.mp g)⟩
    · obtain ⟨k, h1, h2⟩ := two _ _ e g
      exact ⟨n, by omega, Or.inr ⟨k, ⟨h1.1, by omega⟩, h2⟩⟩
section Closed
variable {E D E1 D1 S' D3 : St} {b h t M0 M1 base : Int} {L : List (Int × Int)}
theorem cd_ag (K : RD E b D h t M0 M1 base) (o : offA D D1 h t) (fD : fDe D D3) (f1 : ∀ a, 20 ≤ a → a ≤ 23 → D3 a = D1 a) (f5 : fR5 D D3 h t base L) (f34 : ∀ j, ¬ (120 * (120 * h + M0) ≤ j ∧ j < 120 * (120 * h + M1)) → D3 34 j = D 34 j) : AgR D D3 h t M0 base := by
  have ht := K.1.2.2.1
  have hbase := K.2.1.2.2.2.1
  refine ⟨fun a u ha u0 u1 => ?_, fun a u k ha u0 u1 k0 k1 => ?_, fun u i u0 u1 i0 i1 => ?_, fun a u x ha u0 u1 x0 x1 => ?_, fun u x k u0 u1 x0 x1 k0 k1 => ?_, fun a m h1 h2 m0 m1 => ?_, fun m q m0 m1 q0 q1 => ?_, fun m q m0 m1 q0 q1 => ?_, fun a i ha i0 i1 => ?_⟩
  · by_cases c20 : a = 20
    · rw [c20, f1 20 (by decide) (by decide)]
      exact o _ _ (by unfold rwA; omega)
    by_cases c26 : a = 26
    · rw [c26]; exact (f5.2.1 _ (by omega)).1
    by_cases c27 : a = 27
    · rw [c27]; exact (f5.2.1 _ (by omega)).2
    rw [fD a (by omega) (by omega) (by omega) (by omega) (by omega) (by omega) (by omega)]
  · rw [fD a (by omega) (by omega) (by omega) (by omega) (by omega) (by omega) (by omega)]
  · rw [fD 17 (by omega) (by omega) (by omega) (by omega) (by omega) (by omega) (by omega)]
  · rw [f1 a (by omega) (by omega)]
    exact o _ _ (by unfold rwA; omega)
  · rw [f1 23 (by omega) (by omega)]
    exact o _ _ (by unfold rwA; omega)
  · rw [fD a (by omega) (by omega) (by omega) (by omega) (by omega) (by omega) (by omega)]
  · rw [fD 33 (by omega) (by omega) (by omega) (by omega) (by omega) (by omega) (by omega)]
  · exact f34 _ (by omega)
  · rcases ha with e | e
    · rw [e]; exact (f5.2.2.2.2 _ (by omega)).1
    · rw [e]; exact (f5.2.2.2.2 _ (by omega)).2
/-- a type closed before stays so -/
theorem cd_old {u : Int} (K : RD E b D h t M0 M1 base) (A : AgR D D3 h t M0 base) (fD : fDe D D3) (s : fSe E S' b t) (u0 : 0 ≤ u) (u1 : u < t) : clU S' b D3 h u M1 (base + L.length) := by
  obtain ⟨⟨hb, hh, ht, hD, c0, c1⟩, Kc, Kt, Km⟩ := id K
  have hM := Km.1
  obtain ⟨⟨hT, hU, hV⟩, ⟨n1, n2, n3⟩, rt, vb, ar⟩ := Kc.1 u u0 u1
  have cm := Kc.2.1
  have hF := hT.2.1
  have hB := hT.2.2.1
  have I : inR D h t M0 base u := ⟨⟨u0, u1⟩, n1, n2, fun i i0 i1 => ⟨n3 i i0 i1, (cm _ (hT.2.2.2.2 i i0 i1).1.1 (n3 i i0 i1)).2.1⟩, fun m m0 m1 => (cm m (by omega) (by omega)).2.1⟩
  have v2 : ∀ u', 0 ≤ u' → u' ≤ u → 0 ≤ D 13 (24 * h + u') ∧ D 13 (24 * h + u') ≤ 2 := fun u' a c => (Kc.1 u' a (by omega)).2.2.2.1.1
  have e13 : D3 13 = D 13 := fD 13 (by omega) (by omega) (by omega) (by omega) (by omega) (by omega) (by omega)
  have e15 : D3 15 = D 15 := fD 15 (by omega) (by omega) (by omega) (by omega) (by omega) (by omega) (by omega)
  have e24 : D3 24 = D 24 := fD 24 (by omega) (by omega) (by omega) (by omega) (by omega) (by omega) (by omega)
  have e25 : D3 25 = D 25 := fD 25 (by omega) (by omega) (by omega) (by omega) (by omega) (by omega) (by omega)
  have e26 := A.1 26 u (by omega) u0 u1
  have e27 := A.1 27 u (by omega) u0 u1
  have e20 := A.1 20 u (by omega) u0 u1
  have J : ∀ i, D 26 (24 * h + u) ≤ i → i < D 26 (24 * h + u) + D 27 (24 * h + u) → D 35 (7200 * h + i) < M0 := fun i i0 i1 => by
    have := (hV.2.2.2.2.2.1 i i0 i1).1
    omega
  refine ⟨⟨tr_okT A I hT, tr_okU A (by omega) hT I J hU, tr_okV A (by omega) hT hU I hV⟩, ⟨?_, ?_, ?_⟩, ?_, ?_, ?_⟩
  · rw [e24, e25]; omega
  · rw [e26, e27]; omega
  · rw [e26, e27]
    intro i i0 i1
    rw [A.2.2.2.2.2.2.2.2 36 i (Or.inr rfl) (by omega) (by omega)]
    have := n3 i i0 i1
    omega
  · have r := tr_rTy A (by omega) ⟨u0, u1⟩ v2 hV.2.1 hU.2.1.2 (fun x x0 x1 z => (hV.2.2.2.2.2.2 x x0 x1 z).1) rt
    have eq : ∀ c j, 0 ≤ c → c ≤ 5 → S' (ty b u + c) j = E (ty b u + c) j := fun c j h1 h2 => s _ _ (by unfold ty; omega) (by unfold ty; omega) (by unfold ty; omega) (by unfold ty; omega) (by unfold ty; omega) (by unfold ty; omega) (by unfold ty; omega) (by unfold ty; omega) (by unfold ty; omega) (by unfold ty; omega)
    have eq0 : ∀ j, S' (ty b u) j = E (ty b u) j := fun j => by have := eq 0 j (by decide) (by decide); rwa [Int.add_zero] at this
    have eq1 := fun j => eq 1 j (by decide) (by decide)
    have eq2 := fun j => eq 2 j (by decide) (by decide)
    have eq3 := fun j => eq 3 j (by decide) (by decide)
    have eq4 := fun j => eq 4 j (by decide) (by decide)
    have eq5 := fun j => eq 5 j (by decide) (by decide)
    exact ⟨rT_E eq0 eq1 eq2 r.1, rR_E eq0 eq3 r.2.1, rF_E eq0 r.2.2.1, rA_E eq0 eq4 r.2.2.2.1, rS_E eq5 r.2.2.2.2.1, rB_E eq0 r.2.2.2.2.2⟩
  · rw [e13, e15]; exact vb
  · rw [e20]
    intro i i0 i1
    have ub := hU.2.2.1 i i0 i1
    have eab : ab D3 h u i = ab D h u i := A.2.2.2.1 21 u i (Or.inl rfl) u0 u1 i0 (by have := hU.2.1.2; omega)
    have g := ar i i0 i1
    rw [eab, A.2.2.2.1 22 u _ (Or.inr rfl) u0 u1 ub.1 (by omega), e13]
    refine ⟨g.1, fun k k0 k1 => ?_⟩
    have vx := v2 _ ub.1 (by omega)
    have q := g.2 k k0 k1
    unfold sVar at q ⊢
    rw [A.2.2.2.2.1 u _ k u0 u1 ub.1 (by omega) k0 (by omega)]
    unfold aOK at q ⊢
    rw [e13]; exact q
end Closed
