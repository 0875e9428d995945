/-! pure: close: both together, and what stands behind it -/
def rwC (h t M0 M1 base a j : Int) : Prop := rwA h t a j ∨ (a = 34 ∧ 120 * (120 * h + M0) ≤ j ∧ j < 120 * (120 * h + M1)) ∨ (a = 5 ∧ j = h) ∨ ((a = 26 ∨ a = 27) ∧ j = 24 * h + t) ∨ ((a = 35 ∨ a = 36) ∧ 7200 * h + base ≤ j ∧ j < 7200 * h + 2880)
def Cld (E : St) (b : Int) (D : St) (h t M0 M1 base : Int) (S' D3 : St) : Prop := ∃ base', base ≤ base' ∧ RDc S' b D3 h (t + 1) M1 base' ∧ rMs S' b D3 h M1 ∧ rGs S' b D3 h M1 ∧ (S' b 7 = base' ∧ D3 5 h = base') ∧ fSe E S' b t ∧ ∀ a j, ¬ rwC h t M0 M1 base a j → D3 a j = D a j
section JClose
variable {E E0 D : St} {b h t M0 M1 base : Int}
theorem cd_all {E1 D1 S3 D2 S' D3 : St} {L : List (Int × Int)} (K : RD E b D h t M0 M1 base) (nt : ¬ twin D h M0 M1) (P : PutI D h t (wW D h t) (wW D h t) 0 D1) (G : GI E b D h t (wW D h t) E1) (o2 : off34 D1 D2) (rw_ : ∀ a, M0 ≤ a → a < M1 → RW D1 D2 h t M0 a) (lo : ∀ j, ¬ (120 * (120 * h + M0) ≤ j ∧ j < 120 * (120 * h + M1)) → D2 34 j = D1 34 j) (a3 : ∀ a j, ¬ a = 1035 → ¬ a = 1036 → ¬ (a = 1034 ∧ j = 4) → ¬ a = b + 3 → S3 a j = E1 a j) (hO : ∀ m' n, 0 ≤ m' → m' < 121 → (m' < M0 ∨ M1 ≤ m') → 0 ≤ n → n < 128 → (hasO S3 b m' n ↔ hasO E b m' n)) (hN : ∀ m n, M0 ≤ m → m < M1 → 0 ≤ n → n < M0 → (hasO S3 b m n ↔ ovr D2 h m n)) (hZ : ∀ m n, M0 ≤ m → m < M1 → M0 ≤ n → n < 128 → ¬ hasO S3 b m n) (B2 : BX D2 h t M0 M1) (O2 : okL D2 h M0 M1 L) (lr : LR D2 h t base L D3) (lc : LC S3 b t base L S') : Cld E b D h t M0 M1 base S' D3 := by
  have kmem := K.mem
  obtain ⟨⟨hb, hh, ht, hD, c0, c1⟩, Kc, Kt, Km⟩ := id K
  have hM := Km.1
  have hbase := Kc.2.2.2.1
  have o := P.1
  have oE := G.1
  obtain ⟨l1, l2, l3, l4, l5, l6⟩ := lr
  obtain ⟨k1, k2, k3, k4, k5, k6⟩ := lc
  have h01 : 0 ≤ h ∧ h ≤ 1 := by unfold half01 at hh; omega
  have e3 : ∀ a, ¬ a = 34 → ¬ a = 5 → ¬ a = 26 → ¬ a = 27 → ¬ a = 35 → ¬ a = 36 → D3 a = D1 a := fun a g1 g2 g3 g4 g5 g6 => funext (fun j => (l1 a j (by unfold rwB; omega)).trans (o2 a j g1))
  have fD : fDe D D3 := fun a g0 g1 g2 g3 g4 g5 g6 => (e3 a g1 g2 g3 g4 g5 g6).trans (o.eq g0)
  have f1 : ∀ a, 20 ≤ a → a ≤ 23 → D3 a = D1 a := fun a g1 g2 => e3 a (by omega) (by omega) (by omega) (by omega) (by omega) (by omega)
  have e34 : D3 34 = D2 34 := funext (fun j => l1 34 j (by unfold rwB; omega))
  have f34 : ∀ j, ¬ (120 * (120 * h + M0) ≤ j ∧ j < 120 * (120 * h + M1)) → D3 34 j = D 34 j := fun j g => by rw [e34, lo j g, o.eq (a := 34) (by omega)]
  have d2 : ∀ a, ¬ a = 34 → (a < 20 ∨ 23 < a) → D2 a = D a := fun a g1 g2 => (funext (fun j => o2 a j g1)).trans (o.eq g2)
  have f5 : fR5 D D3 h t base L := by
    refine ⟨fun j g => ?_, fun j g => ⟨?_, ?_⟩, ⟨l2, l3, l4⟩, l5, fun j g => ⟨?_, ?_⟩⟩
    · rw [l1 5 j (by unfold rwB; omega), d2 5 (by decide) (by decide)]
    · rw [l1 26 j (by unfold rwB; omega), d2 26 (by decide) (by decide)]
    · rw [l1 27 j (by unfold rwB; omega), d2 27 (by decide) (by decide)]
    · rw [(l6 j g).1, d2 35 (by decide) (by decide)]
    · rw [(l6 j g).2, d2 36 (by decide) (by decide)]
  have s : fSe E S' b t := by
    intro a j g1 g2 g3 g4 g5 g6 g7 g8 g9 g10
    rw [k1 a j g1 (by omega) g3 g4, a3 a j g9 g10 g8 g2]
    exact oE a j (by omega) g6 g7
  have s1 : ∀ a j, ¬ (a = b ∧ j = 7) → ¬ (a = ty b t ∧ (j = 18 ∨ j = 19)) → ¬ a = b + 4 → ¬ a = b + 5 → ¬ a = b + 3 → ¬ a = 1034 → ¬ a = 1035 → ¬ a = 1036 → S' a j = E1 a j := fun a j g1 g2 g3 g4 g5 g6 g7 g8 => (k1 a j g1 g2 g3 g4).trans (a3 a j g7 g8 (by omega) g5)
  have sg : S' (ty b t) 12 = E1 (ty b t) 12 ∧ S' (ty b t) 14 = E1 (ty b t) 14 ∧ S' (ty b t + 4) = E1 (ty b t + 4) ∧ S' (ty b t + 5) = E1 (ty b t + 5) ∧ S' (ty b t) 18 = base ∧ S' (ty b t) 19 = L.length := by
    refine ⟨s1 _ _ ?_ ?_ ?_ ?_ ?_ ?_ ?_ ?_, s1 _ _ ?_ ?_ ?_ ?_ ?_ ?_ ?_ ?_, funext (fun j => s1 _ _ ?_ ?_ ?_ ?_ ?_ ?_ ?_ ?_), funext (fun j => s1 _ _ ?_ ?_ ?_ ?_ ?_ ?_ ?_ ?_), k3, k4⟩ <;> (unfold ty; omega)
  have hO3 : ∀ m n, hasO S' b m n ↔ hasO S3 b m n := fun m n => by
    have : S' (b + 3) = S3 (b + 3) := funext (fun j => k1 _ _ (by omega) (by unfold ty; omega) (by omega) (by omega))
    unfold hasO
    rw [this]
  have O : okL D h M0 M1 L := by
    have ss := fun a c => sou_c (D := D) (D' := D2) (h := h) (m := a) (q := c) (d2 15 (by decide) (by decide)) (d2 28 (by decide) (by decide)) (d2 29 (by decide) (by decide)) (d2 32 (by decide) (by decide)) (d2 33 (by decide) (by decide))
    refine ⟨fun p hp => ?_, fun i j ij jl z => O2.2 i j ij jl ((ss _ _).mpr z)⟩
    have g := O2.1 p hp
    unfold bare at g ⊢
    rw [d2 31 (by decide) (by decide), d2 30 (by decide) (by decide)] at g
    exact ⟨g.1, g.2.1, g.2.2.1, g.2.2.2.1, fun x x0 x1 z => g.2.2.2.2 x x0 x1 ((ss _ _).mpr z)⟩
  have len := okL_len ⟨hM.1, by omega⟩ O
  have A := cd_ag K o fD f1 f5 f34
  have e := fD
  have e13 := e 13 (by omega) (by omega) (by omega) (by omega) (by omega) (by omega) (by omega)
  have e15 := e 15 (by omega) (by omega) (by omega) (by omega) (by omega) (by omega) (by omega)
  have e24 := e 24 (by omega) (by omega) (by omega) (by omega) (by omega) (by omega) (by omega)
  have e25 := e 25 (by omega) (by omega) (by omega) (by omega) (by omega) (by omega) (by omega)
  have e28 := e 28 (by omega) (by omega) (by omega) (by omega) (by omega) (by omega) (by omega)
  have e29 := e 29 (by omega) (by omega) (by omega) (by omega) (by omega) (by omega) (by omega)
  have e30 := e 30 (by omega) (by omega) (by omega) (by omega) (by omega) (by omega) (by omega)
  have e31 := e 31 (by omega) (by omega) (by omega) (by omega) (by omega) (by omega) (by omega)
  have e32 := e 32 (by omega) (by omega) (by omega) (by omega) (by omega) (by omega) (by omega)
  have e33 := e 33 (by omega) (by omega) (by omega) (by omega) (by omega) (by omega) (by omega)
  have smm : ∀ m c j, 0 ≤ m → m < M1 → 0 ≤ c → c ≤ 2 → S' (me b m + c) j = E (me b m + c) j := fun m c j m0 m1 c0 c2 => s _ _ (by unfold me; omega) (by unfold me; omega) (by unfold me; omega) (by unfold me; omega) (by unfold me ty; omega) (by unfold me ty; omega) (by unfold me ty; omega) (by unfold me; omega) (by unfold me; omega) (by unfold me; omega)
  have sm0 : ∀ m j, 0 ≤ m → m < M1 → S' (me b m) j = E (me b m) j := fun m j m0 m1 => by have := smm m 0 j m0 m1 (by decide) (by decide); rwa [Int.add_zero] at this
  refine ⟨base + L.length, by omega, ⟨fun u u0 u1 => ?_, fun m m0 m1 => ?_, fun i i0 i1 => ?_, by omega, fun x n x0 x1 n0 n1 => ?_, fun x n x0 x1 n0 n1 z => ?_, fun x n x0 x1 n0 n1 => ?_, fun m n m0 m1 n0 n1 mm z => ?_⟩, fun m m0 m1 => ?_, fun m q m0 m1 q0 q1 => ?_, ⟨k2, l2⟩, s, fun a j g => ?_⟩
  · by_cases c : u < t
    · exact cd_old K A fD s u0 c
    · have : u = t := by omega
      rw [this]
      exact cd_new K P G A fD f1 f5 s sg nt O
  · rw [e28, e24, e25, e33, e32]
    have tm : okM D3 h m := by
      have g := kmem m m0 m1
      unfold okM at g ⊢
      rw [e28, e32, e33]; exact g
    have kk : ∀ u v, kOK D h u v → kOK D3 h u v := fun u v g => by unfold kOK at g ⊢; rw [e13]; exact g
    by_cases c : m < M0
    · have g := Kc.2.1 m m0 c
      exact ⟨tm, by omega, g.2.2.1, fun q q0 q1 q2 => kk _ _ (g.2.2.2 q q0 q1 q2)⟩
    · have g := Km.2.1 m (by omega) m1
      rw [g.2.1]
      exact ⟨tm, by omega, by rw [Km.2.2.2.2.2.1, Km.2.2.2.2.2.2.1]; omega, fun q q0 q1 q2 => kk _ _ (g.2.2.1 q q0 q1 q2)⟩
  · by_cases c : i < base
    · have g := k6 i c
      have w := l6 (7200 * h + i) (by omega)
      have r := Kc.2.2.1 i i0 c
      rw [g.1, g.2, w.1, w.2, d2 35 (by decide) (by decide), d2 36 (by decide) (by decide), ← r.1, ← r.2, a3 _ _ (by omega) (by omega) (by omega) (by omega), a3 _ _ (by omega) (by omega) (by omega) (by omega), oE _ _ (by unfold ty; omega) (by unfold ty; omega) (by unfold ty; omega), oE _ _ (by unfold ty; omega) (by unfold ty; omega) (by unfold ty; omega)]
      exact ⟨rfl, rfl⟩
    · have hi : (i - base).toNat < L.length := by omega
      have g := k5 (i - base).toNat hi
      have w := l5 (i - base).toNat hi
      rw [show base + ((i - base).toNat : Int) = i by omega] at g w
      rw [g.1, g.2, w.1, w.2]
      exact ⟨rfl, rfl⟩
  · rw [hO3]
    by_cases c : x < M0
    · rw [hO x n x0 (by omega) (Or.inl c) n0 (by omega)]
      have eo : ovr D3 h x n ↔ ovr D h x n := by unfold ovr; rw [f34 _ (by omega)]
      rw [eo]
      by_cases d : n < M0
      · exact Kc.2.2.2.2.1 x n x0 c n0 d
      · exact ⟨fun z => absurd z (Kc.2.2.2.2.2.2.2 x n x0 (by omega) n0 (by omega) (Or.inr (by omega))), fun z => by have := (Kc.2.2.2.2.2.1 x n x0 c n0 (by omega) z).1; omega⟩
    · have eo : ovr D3 h x n ↔ ovr D2 h x n := by unfold ovr; rw [e34]
      rw [eo]
      by_cases d : n < M0
      · exact hN x n (by omega) x1 n0 d
      · exact ⟨fun z => absurd z (hZ x n (by omega) x1 (by omega) (by omega)), fun z => absurd z ((rw_ x (by omega) x1).2.1 n (by omega) (by omega))⟩
  · have bb : ∀ D0 : St, D0 31 = D 31 → D0 30 = D 30 → (bare D3 h n ↔ bare D0 h n) := fun D0 g1 g2 => by unfold bare; rw [e31, e30, g1, g2]
    by_cases c : x < M0
    · have eo : ovr D3 h x n ↔ ovr D h x n := by unfold ovr; rw [f34 _ (by omega)]
      have g := Kc.2.2.2.2.2.1 x n x0 c n0 n1 (eo.mp z)
      exact ⟨g.1, (bb D rfl rfl).mpr g.2⟩
    · have eo : ovr D3 h x n ↔ ovr D2 h x n := by unfold ovr; rw [e34]
      have w := rw_ x (by omega) x1
      have nM : n < M0 := by
        by_cases d : n < M0
        · exact d
        · exact absurd (eo.mp z) (w.2.1 n (by omega) n1)
      have g := (w.1 n n0 nM).mp (eo.mp z)
      exact ⟨by omega, (bb D1 (o.eq (by omega)) (o.eq (by omega))).mpr g.2.2.1⟩
  · rw [e34]
    exact B2.2.2.2.2.2.1 x n x0 x1 n0 n1
  · have z := (hO3 m n).mp z
    by_cases c : M0 ≤ m ∧ m < M1
    · exact hZ m n c.1 c.2 (by omega) n1 z
    · exact Kc.2.2.2.2.2.2.2 m n m0 m1 n0 n1 (by omega) ((hO m n m0 m1 (by omega) n0 n1).mp z)
  · have r := Km.2.2.1 m m0 m1
    have r' : rM E b D3 h m := by
      unfold rM kOr kEr bnd at r ⊢
      rw [e28, e29, e30, e31, e32, e33, e15]; exact r
    exact rM_E (fun j => sm0 m j m0 m1) (fun j => smm m 1 j m0 m1 (by decide) (by decide)) (fun j => smm m 2 j m0 m1 (by decide) (by decide)) r'
  · rw [sou_c e15 e28 e29 e32 e33, sm0 m 7 m0 m1, sm0 q 7 q0 q1]
    exact Km.2.2.2.1 m q m0 m1 q0 q1
  · unfold rwC at g
    by_cases c34 : a = 34
    · rw [c34]; exact f34 j (fun w => g (Or.inr (Or.inl ⟨c34, w.1, w.2⟩)))
    by_cases c5 : a = 5
    · rw [c5]; exact f5.1 j (fun w => g (Or.inr (Or.inr (Or.inl ⟨c5, w⟩))))
    by_cases c26 : a = 26
    · rw [c26]; exact (f5.2.1 j (fun w => g (Or.inr (Or.inr (Or.inr (Or.inl ⟨Or.inl c26, w⟩)))))).1
    by_cases c27 : a = 27
    · rw [c27]; exact (f5.2.1 j (fun w => g (Or.inr (Or.inr (Or.inr (Or.inl ⟨Or.inr c27, w⟩)))))).2
    by_cases c35 : a = 35
    · rw [c35]; exact (f5.2.2.2.2 j (by clear hO hN hZ; omega)).1
    by_cases c36 : a = 36
    · rw [c36]; exact (f5.2.2.2.2 j (by clear hO hN hZ; omega)).2
    rw [e3 a c34 c5 c26 c27 c35 c36]
    exact o a j (fun w => g (Or.inl w))
theorem J_close {k : Int → St → Prop} (K : RD E b D h t M0 M1 base) (d8 : D 0 8 = 0) (e0 : E = up (up E0 1034 0 b) 1034 1 (ty b t))
    (hf : ∀ f S' SR', (f = 7 ∨ f = 8 ∨ f = 9 ∨ f = 10) → offEb E S' b → offF D SR' h t M0 M1 → SR' 0 8 = f → SR' 0 9 = D 0 6 → (∀ k : St → Prop, k SR' → wX8_close D t k) → k f S')
    (hs : ∀ S' SR', Cld E b D h t M0 M1 base S' SR' → (∀ k : St → Prop, k SR' → wX8_close D t k) → k 0 S') : wX0_close E0 b (ty b t) k := by
  refine close_run K d8 e0 hf (fun E1 D1 S3 D2 S' SR' nt P G o2 rw_ lo a3 hO hN hZ B2 lr lc r => hs S' SR' (cd_all K nt P G o2 rw_ lo a3 hO hN hZ B2 (b1_ok B2 _ ?_) lr lc) r)
  have := K.2.2.2.1
  omega
end JClose
