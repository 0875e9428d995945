/-! pure: close: what stands when a type is closed -/
/-- an argument, a kind, as type u sees it -/
def aOK (D : St) (h u v : Int) : Prop := (0 ≤ v ∧ v ≤ u) ∨ (100 ≤ v ∧ v - 100 < D 13 (24 * h + u))
def kOK (D : St) (h u v : Int) : Prop := (-3 ≤ v ∧ v ≤ u) ∨ (100 ≤ v ∧ v - 100 < D 13 (24 * h + u))
/-- a type that is closed -/
def clU (E : St) (b : Int) (D : St) (h u M0 base : Int) : Prop := (okT D h u ∧ okU D h u ∧ okV D h u) ∧ (D 24 (24 * h + u) + D 25 (24 * h + u) ≤ M0 ∧ D 26 (24 * h + u) + D 27 (24 * h + u) ≤ base ∧ ∀ i, D 26 (24 * h + u) ≤ i → i < D 26 (24 * h + u) + D 27 (24 * h + u) → D 36 (7200 * h + i) < M0) ∧ rTy E b D h u ∧ ((0 ≤ D 13 (24 * h + u) ∧ D 13 (24 * h + u) ≤ 2) ∧ ∀ k, 0 ≤ k → k < D 13 (24 * h + u) → -1 ≤ D 15 (2 * (24 * h + u) + k) ∧ D 15 (2 * (24 * h + u) + k) ≤ u) ∧ ∀ i, 0 ≤ i → i < D 20 (24 * h + u) → ¬ D 22 (24 * (24 * h + u) + ab D h u i) = 0 ∧ ∀ k, 0 ≤ k → k < D 13 (24 * h + ab D h u i) → aOK D h u (sVar D h u (ab D h u i) k)
def clM (D : St) (h t M0 : Int) : Prop := ∀ m, 0 ≤ m → m < M0 → okM D h m ∧ D 28 (120 * h + m) < t ∧ (D 24 (24 * h + D 28 (120 * h + m)) ≤ m ∧ m < D 24 (24 * h + D 28 (120 * h + m)) + D 25 (24 * h + D 28 (120 * h + m))) ∧ ∀ q, 0 ≤ q → q ≤ 2 → (q < 2 → q < D 32 (120 * h + m)) → kOK D h (D 28 (120 * h + m)) (D 33 (3 * (120 * h + m) + q))
def RDc (E : St) (b : Int) (D : St) (h t M0 base : Int) : Prop := (∀ u, 0 ≤ u → u < t → clU E b D h u M0 base) ∧ clM D h t M0 ∧ rBs E b D h base ∧ (0 ≤ base ∧ base ≤ 120 * t) ∧ (∀ o n, 0 ≤ o → o < M0 → 0 ≤ n → n < M0 → (hasO E b o n ↔ ovr D h o n)) ∧ okO D h M0 ∧ (∀ o n, 0 ≤ o → o < M0 → 0 ≤ n → n < 120 → D 34 (120 * (120 * h + o) + n) = 0 ∨ D 34 (120 * (120 * h + o) + n) = 1) ∧ ∀ m n, 0 ≤ m → m < 121 → 0 ≤ n → n < 128 → (M0 ≤ m ∨ M0 ≤ n) → ¬ hasO E b m n
/-- the type that is closed now: its head and REFS -/
def RDt (E : St) (b : Int) (D : St) (h t : Int) : Prop := rT E b D h t ∧ rR E b D h t ∧ ((0 ≤ D 13 (24 * h + t) ∧ D 13 (24 * h + t) ≤ 2) ∧ ∀ k, 0 ≤ k → k < D 13 (24 * h + t) → -1 ≤ D 15 (2 * (24 * h + t) + k) ∧ D 15 (2 * (24 * h + t) + k) ≤ t) ∧ ((0 ≤ D 16 (24 * h + t) ∧ D 16 (24 * h + t) ≤ 4) ∧ (∀ n, 0 ≤ n → n < D 16 (24 * h + t) → (0 ≤ rf D h t n ∧ rf D h t n < t) ∧ (∀ k, 0 ≤ k → k < D 13 (24 * h + rf D h t n) → aOK D h t (rk D h t n k) ∧ E (ty b t + 5) (2 * rf D h t n + k) = rk D h t n k) ∧ (¬ D 11 (24 * h + rf D h t n) = 2 → n = 0 ∧ D 19 (24 * h + t) = rf D h t n ∧ ¬ D 11 (24 * h + t) = 2)) ∧ ∀ n m, 0 ≤ n → n < m → m < D 16 (24 * h + t) → ¬ rf D h t n = rf D h t m) ∧ (E (ty b t) 12 = 0 ∧ E (ty b t) 18 = 0 ∧ E (ty b t) 19 = 0) ∧ (∀ x, 0 ≤ x → x < 24 → (bit (E (ty b t) 14) x ↔ isRf D h t x)) ∧ (∀ k, 0 ≤ k → k < D 13 (24 * h + t) → E (ty b t + 5) (2 * t + k) = 100 + k) ∧ (0 ≤ D 11 (24 * h + t) ∧ D 11 (24 * h + t) ≤ 2) ∧ (D 19 (24 * h + t) = -13 ∨ (0 < D 16 (24 * h + t) ∧ D 19 (24 * h + t) = rf D h t 0 ∧ ¬ D 11 (24 * h + rf D h t 0) = 2))
/-- its members -/
def RDm (E : St) (b : Int) (D : St) (h t M0 M1 base : Int) : Prop := (0 ≤ M0 ∧ M0 ≤ M1 ∧ M1 ≤ 120) ∧ (∀ m, M0 ≤ m → m < M1 → okM D h m ∧ D 28 (120 * h + m) = t ∧ (∀ q, 0 ≤ q → q ≤ 2 → (q < 2 → q < D 32 (120 * h + m)) → kOK D h t (D 33 (3 * (120 * h + m) + q))) ∧ (D 11 (24 * h + t) = 2 → D 30 (120 * h + m) = 0 ∨ D 30 (120 * h + m) = 3)) ∧ rMs E b D h M1 ∧ rGs E b D h M1 ∧ (E (ty b t) 16 = M0 ∧ E (ty b t) 17 = M1 - M0 ∧ E b 3 = M1 ∧ E b 7 = base) ∧ (D 24 (24 * h + t) = M0 ∧ D 25 (24 * h + t) = M1 - M0 ∧ D 4 h = M1 ∧ D 5 h = base)
def RD (E : St) (b : Int) (D : St) (h t M0 M1 base : Int) : Prop := ((b = 2 ∨ b = 515) ∧ half01 h ∧ (0 ≤ t ∧ t < 24) ∧ D 0 10 = h ∧ E 1034 0 = b ∧ E 1034 1 = ty b t) ∧ RDc E b D h t M0 base ∧ RDt E b D h t ∧ RDm E b D h t M0 M1 base
section Close
variable {E D : St} {b h t M0 M1 base : Int}
theorem RD.ht (K : RD E b D h t M0 M1 base) : HT D h t := by
  obtain ⟨⟨hb, hh, ht, hD, c0, c1⟩, Kc, Kt, Km⟩ := K
  refine ⟨hh, ht, ⟨Kt.2.2.2.1.1, fun n n0 n1 => (Kt.2.2.2.1.2.1 n n0 n1).1⟩, fun u u0 u1 => ?_, fun u u0 u1 => ?_, fun u i k u0 u1 i0 i1 k0 k1 => ?_⟩
  · by_cases c : u < t
    · exact (Kc.1 u u0 c).2.2.2.1.1
    · have : u = t := by omega
      rw [this]; exact Kt.2.2.1.1
  · have hU := (Kc.1 u u0 u1).1.2.1
    exact ⟨hU.2.1, hU.2.2.1⟩
  · have cu := Kc.1 u u0 u1
    have a := (cu.2.2.2.2 i i0 i1).2 k k0 k1
    have v := cu.2.2.2.1.1
    have x := cu.1.2.1.2.2.1 i i0 i1
    unfold sVar at a
    rw [if_neg (by omega)] at a
    unfold aOK at a
    omega
theorem RD.hc (K : RD E b D h t M0 M1 base) : HC E b D h t := by
  obtain ⟨⟨hb, hh, ht, hD, c0, c1⟩, Kc, Kt, Km⟩ := K
  refine ⟨hb, ⟨c0, c1⟩, fun u u0 u1 => ?_, fun u u0 u1 => ?_, Kt.2.1.1, fun n n0 n1 => ?_, Kt.2.2.2.2.1.1, Kt.2.2.2.2.2.1, Kt.2.2.2.1.2.2, fun u i u0 u1 i0 i1 => ?_⟩
  · have r := (Kc.1 u u0 u1).2.2.1
    exact ⟨r.1.1, r.2.2.2.1, r.2.2.2.2.1⟩
  · by_cases c : u < t
    · exact (Kc.1 u u0 c).2.2.1.1.2.2.2.2.2.2.1
    · have : u = t := by omega
      rw [this]; exact Kt.1.2.2.2.2.2.2.1
  · exact ⟨Kt.2.1.2.1 n n0 n1, fun k k0 k1 => ((Kt.2.2.2.1.2.1 n n0 n1).2.1 k k0 k1).2⟩
  · have cu := (Kc.1 u u0 u1).2.2.2.2 i i0 i1
    have cv := (Kc.1 u u0 u1).1.2.1.2.2.1 i i0 i1
    refine ⟨cu.1, fun k k0 k1 z => ?_⟩
    have := cu.2 k k0 k1
    unfold aOK at this
    omega
/-- every argument that is put is one that t may see -/
theorem RD.arg (K : RD E b D h t M0 M1 base) : ∀ e ∈ wW D h t, ∀ k, 0 ≤ k → k < D 13 (24 * h + e.1) → aOK D h t (cmpA e k) := by
  have H := K.ht
  obtain ⟨⟨hb, hh, ht, hD, c0, c1⟩, Kc, Kt, Km⟩ := K
  have two : ∀ (n : Int) (i : Nat), 0 ≤ n → n < D 16 (24 * h + t) → (i : Int) ≤ D 20 (24 * h + rf D h t n) → ∀ e ∈ w2L D h t n i, ∀ k, 0 ≤ k → k < D 13 (24 * h + e.1) → aOK D h t (cmpA e k) := by
    intro n i n0 n1
    have rn := (Kt.2.2.2.1.2.1 n n0 n1)
    induction i with
    | zero => intro _ e he; exact absurd he List.not_mem_nil
    | succ i ih =>
      intro hi e he k k0 k1
      rcases List.mem_append.mp he with g | g
      · exact ih (by omega) e g k k0 k1
      · rw [List.mem_singleton.mp g] at k1 ⊢
        have k1' : k < D 13 (24 * h + ab D h (rf D h t n) i) := k1
        have cu := Kc.1 _ rn.1.1 rn.1.2
        have cx := cu.1.2.1.2.2.1 i (by omega) (by omega)
        have v13 := (H.2.2.2.1 _ cx.1 (by omega)).2
        rw [ea_cmp D h t n i k (by omega)]
        have a := (cu.2.2.2.2 i (by omega) (by omega)).2 k k0 k1'
        unfold ea
        rw [if_pos k1']
        unfold rpl
        unfold aOK at a
        split
        · rename_i c
          exact (rn.2.1 _ (by omega) (by omega)).1
        · unfold aOK; omega
  have one : ∀ n : Nat, (n : Int) ≤ D 16 (24 * h + t) → ∀ e ∈ wL D h t n, ∀ k, 0 ≤ k → k < D 13 (24 * h + e.1) → aOK D h t (cmpA e k) := by
    intro n
    induction n with
    | zero => intro _ e he; exact absurd he List.not_mem_nil
    | succ n ih =>
      intro hn e he k k0 k1
      have rn := (Kt.2.2.2.1.2.1 n (by omega) (by omega))
      rcases List.mem_append.mp he with g | g
      · rcases List.mem_append.mp g with g | g
        · exact ih (by omega) e g k k0 k1
        · rw [List.mem_singleton.mp g] at k1 ⊢
          have k1' : k < D 13 (24 * h + rf D h t n) := k1
          have v13 := (H.2.2.2.1 _ rn.1.1 (by omega)).2
          have a := (rn.2.1 k k0 k1').1
          have k01 : k = 0 ∨ k = 1 := by omega
          unfold cmpA w1
          rcases k01 with e | e
          · rw [if_pos e]; rw [e] at a; exact a
          · rw [if_neg (by omega)]; rw [e] at a; exact a
      · have hu := (H.2.2.2.2.1 _ rn.1.1 rn.1.2).1
        exact two n _ (by omega) (by omega) (by omega) e g k k0 k1
  exact one (D 16 (24 * h + t)).toNat (by have := Kt.2.2.2.1.1; omega)
theorem rf_in (K : RD E b D h t M0 M1 base) {x : Int} (g : isRf D h t x) : x ∈ dd (wW D h t) := by
  obtain ⟨n, n0, n1, n2⟩ := g
  refine (dd_mem _ _).mpr ⟨w1 D h t n, ?_, n2⟩
  have e1 : w1 D h t n ∈ wL D h t (n.toNat + 1) := by
    refine List.mem_append.mpr (Or.inl (List.mem_append.mpr (Or.inr ?_)))
    rw [show (n.toNat : Int) = n by omega]
    exact List.mem_cons_self
  have := wL_sub D h t ((D 16 (24 * h + t)).toNat - (n.toNat + 1)) (n.toNat + 1) _ e1
  unfold wW
  rwa [show n.toNat + 1 + ((D 16 (24 * h + t)).toNat - (n.toNat + 1)) = (D 16 (24 * h + t)).toNat by omega] at this
theorem dd_lt (H : HT D h t) {x : Int} (g : x ∈ dd (wW D h t)) : 0 ≤ x ∧ x < t := by
  obtain ⟨e, h1, h2⟩ := (dd_mem _ _).mp g
  have := wL_lt H _ (by have := H.2.2.1.1; omega) e h1
  omega
/-- cells that putting leaves whole -/
theorem offA.eq {D1 : St} (o : offA D D1 h t) {a : Int} (ha : a < 20 ∨ 23 < a) : D1 a = D a := funext (fun j => o a j (by unfold rwA; omega))
end Close
section Close2
variable {E D E1 D1 : St} {b h t M0 M1 base : Int}
/-- both have gathered: the type's row above stands in both, alike -/
theorem gathered (K : RD E b D h t M0 M1 base) (P : PutI D h t (wW D h t) (wW D h t) 0 D1) (G : GI E b D h t (wW D h t) E1) : rA E1 b D1 h t ∧ rS E1 b D1 h t ∧ (∀ x, 0 ≤ x → x < 24 → (¬ D1 22 (24 * (24 * h + t) + x) = 0 ↔ x ∈ dd (wW D h t))) ∧ ∀ x, x ∈ dd (wW D h t) → ∀ k, 0 ≤ k → k < D 13 (24 * h + x) → aOK D h t (sVar D1 h t x k) := by
  have H := K.ht
  have A := K.arg
  have Kt := K.2.2.1
  obtain ⟨P1, P2, P3, P4, P5, P6⟩ := P
  obtain ⟨G1, G2, G3, G4, G5, G6, G7, G8⟩ := G
  have P6' : ∀ e, e ∈ wW D h t → sameA D h e.1 e.2.1 e.2.2 (D1 23 (2 * (24 * (24 * h + t) + e.1))) (D1 23 (2 * (24 * (24 * h + t) + e.1) + 1)) := by
    rcases P6 with w | w
    · exact w.2
    · exact absurd w.1 (by decide)
  have ht := H.2.1
  have val : ∀ x, x ∈ dd (wW D h t) → ∀ k, 0 ≤ k → k < D 13 (24 * h + x) → ∃ e, e ∈ wW D h t ∧ e.1 = x ∧ D1 23 (2 * (24 * (24 * h + t) + x) + k) = cmpA e k ∧ E1 (ty b t + 5) (2 * x + k) = cmpA e k := by
    intro x hx k k0 k1
    have lx := dd_lt H hx
    have v13 := (H.2.2.2.1 x lx.1 (by omega)).2
    obtain ⟨e, e1, e2⟩ := (dd_mem _ _).mp hx
    have s := P6' e e1
    have g := G6 e e1 k k0 (by rw [e2]; exact k1)
    rw [e2] at s g
    refine ⟨e, e1, e2, ?_, g⟩
    unfold sameA at s
    unfold cmpA
    have k01 : k = 0 ∨ k = 1 := by omega
    rcases k01 with c | c
    · rw [if_pos c, c, Int.add_zero]; exact (s.1 (by omega)).symm
    · rw [if_neg (by omega), c]; exact (s.2 (by omega)).symm
  refine ⟨⟨?_, fun i i0 i1 => ?_, fun x x0 x1 => ?_⟩, fun x x0 x1 u k k0 k1 => ?_, P4, fun x hx k k0 k1 => ?_⟩
  · rw [G2, P2]
  · rw [P2] at i1
    have a := G3 i.toNat (by omega)
    have c := P3 i.toNat (by omega)
    rw [show (i.toNat : Int) = i by omega] at a c
    rw [a]
    unfold ab
    rw [c]
  · rw [G4 x x0 x1, P4 x x0 x1]
    exact ⟨fun w => w.elim id (fun r => rf_in K r), fun w => Or.inl w⟩
  · rw [P1.eq (a := 13) (by omega)] at k1
    unfold sVar
    by_cases c : t = x
    · rw [if_pos c]
      subst c
      rw [G8 _ (by omega)]
      exact Kt.2.2.2.2.2.2.1 k k0 k1
    · rw [if_neg c]
      have hx : x ∈ dd (wW D h t) := by
        rcases u with w | w
        · exact absurd w c
        · exact (P4 x x0 x1).mp w
      obtain ⟨e, e1, e2, e3, e4⟩ := val x hx k k0 k1
      rw [e3, e4]
  · have lx := dd_lt H hx
    obtain ⟨e, e1, e2, e3, e4⟩ := val x hx k k0 k1
    unfold sVar
    rw [if_neg (by omega), e3]
    exact A e e1 k k0 (by rw [e2]; exact k1)
/-- the court of the closed, as those above have been put -/
theorem CX_of (K : RD E b D h t M0 M1 base) (P : PutI D h t (wW D h t) (wW D h t) 0 D1) (G : GI E b D h t (wW D h t) E1) : CX E1 b D1 h t M0 M1 := by
  have H := K.ht
  obtain ⟨ga, gs, gi, gv⟩ := gathered K P G
  obtain ⟨⟨hb, hh, ht, hD, c0, c1⟩, Kc, Kt, Km⟩ := K
  have o := P.1
  have oE := G.1
  have c13 := o.eq (a := 13) (by omega)
  have c15 := o.eq (a := 15) (by omega)
  have c28 := o.eq (a := 28) (by omega)
  have c29 := o.eq (a := 29) (by omega)
  have c30 := o.eq (a := 30) (by omega)
  have c31 := o.eq (a := 31) (by omega)
  have c32 := o.eq (a := 32) (by omega)
  have c33 := o.eq (a := 33) (by omega)
  have mem : ∀ m, 0 ≤ m → m < M1 → okM D h m ∧ (m < M0 → D 28 (120 * h + m) < t) ∧ (M0 ≤ m → D 28 (120 * h + m) = t) ∧ ∀ q, 0 ≤ q → q ≤ 2 → (q < 2 → q < D 32 (120 * h + m)) → kOK D h (D 28 (120 * h + m)) (D 33 (3 * (120 * h + m) + q)) := by
    intro m m0 m1
    by_cases c : m < M0
    · have := Kc.2.1 m m0 c
      exact ⟨this.1, fun _ => this.2.1, fun z => by omega, this.2.2.2⟩
    · have := Km.2.1 m (by omega) m1
      refine ⟨this.1, fun z => by omega, fun _ => this.2.1, ?_⟩
      rw [this.2.1]; exact this.2.2.1
  refine ⟨hb, hh, ht, Km.1, ⟨?_, ?_⟩, fun m m0 m1 => ?_, fun u u0 u1 => ⟨?_, ?_⟩, gs, fun m m0 m1 => ?_, fun m m0 m1 u q q0 q1 q2 => ?_, fun u u0 u1 => ?_⟩
  · rw [oE _ _ (by omega) (by omega) (by omega)]; exact Km.2.2.2.2.1.1
  · rw [oE _ _ (by unfold ty; omega) (by unfold ty; omega) (by unfold ty; omega)]; exact Km.2.2.2.2.1.2.2.1
  · have r := Km.2.2.1 m m0 m1
    have r' : rM E b D1 h m := by
      unfold rM kOr kEr bnd at r ⊢
      rw [c28, c29, c30, c31, c32, c33, c15]; exact r
    have hM := Km.1
    exact rM_E (fun j => oE _ _ (by unfold me ty; omega) (by unfold me ty; omega) (by unfold me ty; omega)) (fun j => oE _ _ (by unfold me ty; omega) (by unfold me ty; omega) (by unfold me ty; omega)) (fun j => oE _ _ (by unfold me ty; omega) (by unfold me ty; omega) (by unfold me ty; omega)) r'
  · have r : rT E b D h u := by
      by_cases c : u < t
      · exact (Kc.1 u u0 c).2.2.1.1
      · have : u = t := by omega
        rw [this]; exact Kt.1
    unfold rT at r ⊢
    rw [o.eq (a := 8) (by omega), o.eq (a := 9) (by omega), o.eq (a := 10) (by omega), o.eq (a := 11) (by omega), o.eq (a := 12) (by omega), c13, o.eq (a := 14) (by omega), c15]
    have e0 : ∀ j, ¬ j = 12 → ¬ j = 14 → E1 (ty b u) j = E (ty b u) j := fun j z1 z2 => oE _ _ (by unfold ty; omega) (by unfold ty; omega) (by unfold ty; omega)
    have e1 : E1 (ty b u + 1) = E (ty b u + 1) := funext (fun j => oE _ _ (by unfold ty; omega) (by unfold ty; omega) (by unfold ty; omega))
    have e2 : E1 (ty b u + 2) = E (ty b u + 2) := funext (fun j => oE _ _ (by unfold ty; omega) (by unfold ty; omega) (by unfold ty; omega))
    rw [e0 0 (by decide) (by decide), e0 1 (by decide) (by decide), e0 2 (by decide) (by decide), e0 3 (by decide) (by decide), e0 4 (by decide) (by decide), e0 5 (by decide) (by decide), e0 6 (by decide) (by decide), e1, e2]
    exact r
  · by_cases c : u < t
    · have r := (Kc.1 u u0 c).2.2.1.2.2.2.1
      have r' : rA E b D1 h u := by
        have cu := (Kc.1 u u0 c).1.2.1
        obtain ⟨r1, r2, r3⟩ := r
        have a20 : D1 20 (24 * h + u) = D 20 (24 * h + u) := o _ _ (by unfold rwA; omega)
        refine ⟨by rw [a20]; exact r1, fun i i0 i1 => ?_, fun x x0 x1 => ?_⟩
        · rw [a20] at i1
          rw [r2 i i0 i1]
          unfold ab
          rw [o _ _ (by have := cu.2.1; unfold rwA; omega)]
        · rw [o _ _ (by unfold rwA; omega)]; exact r3 x x0 x1
      exact rA_E (fun j => oE _ _ (by unfold ty; omega) (by unfold ty; omega) (by unfold ty; omega)) (fun j => oE _ _ (by unfold ty; omega) (by unfold ty; omega) (by unfold ty; omega)) r'
    · have : u = t := by omega
      rw [this]; exact ga
  · have r := mem m m0 m1
    rw [c28]
    refine ⟨?_, r.2.1, r.2.2.1⟩
    have r1 := r.1
    unfold okM at r1 ⊢
    rw [c28, c32, c33]; exact r1
  · have r := (mem m m0 m1).2.2.2 q q0 q1 (by rw [c32] at q2; exact q2)
    have okm := (mem m m0 m1).1
    have d28 : 0 ≤ D 28 (120 * h + m) ∧ D 28 (120 * h + m) ≤ t := by
      have := okm.2.1
      by_cases c : m < M0
      · have := (mem m m0 m1).2.1 c; omega
      · have := (mem m m0 m1).2.2.1 (by omega); omega
    rw [c28] at u ⊢
    rw [c33, c13]
    unfold kOK at r
    unfold kSeen
    rw [c33, c28]
    refine ⟨fun z => by omega, ?_⟩
    split
    · rename_i z
      by_cases e : t = D 28 (120 * h + m)
      · unfold sVar
        rw [if_pos e]
        rw [← e] at r
        omega
      · have hx : D 28 (120 * h + m) ∈ dd (wW D h t) := by
          rcases u with w | w
          · exact absurd w e
          · exact (gi _ d28.1 (by omega)).mp w
        have a := gv _ hx (D 33 (3 * (120 * h + m) + q) - 100) (by omega) (by omega)
        unfold aOK at a
        omega
    · omega
  · rw [c13, c15]
    by_cases c : u < t
    · exact (Kc.1 u u0 c).2.2.2.1
    · have : u = t := by omega
      rw [this]; exact Kt.2.2.1
end Close2
