/-! pure: close: the run, both together -/
theorem sou_c {D D' : St} {h m q : Int} (c15 : D' 15 = D 15) (c28 : D' 28 = D 28) (c29 : D' 29 = D 29) (c32 : D' 32 = D 32) (c33 : D' 33 = D 33) : sou D' h m q ↔ sou D h m q := by
  unfold sou erL kEr bnd
  rw [c15, c28, c29, c32, c33]
theorem twin_c {D D' : St} {h M0 M1 : Int} (c15 : D' 15 = D 15) (c28 : D' 28 = D 28) (c29 : D' 29 = D 29) (c32 : D' 32 = D 32) (c33 : D' 33 = D 33) : twin D' h M0 M1 ↔ twin D h M0 M1 := by
  unfold twin erL kEr bnd
  rw [c15, c28, c29, c32, c33]
def offEb (E S : St) (b : Int) : Prop := ∀ a j, ¬ (b ≤ a ∧ a < b + 513 ∧ ¬ (6 ≤ a - b ∧ a - b ≤ 144 ∧ (a - b) % 6 = 0 ∧ j = 0)) → ¬ (a = 1034 ∧ j = 4) → ¬ a = 1035 → ¬ a = 1036 → S a j = E a j
def offF (D S : St) (h t M0 M1 : Int) : Prop := ∀ a j, ¬ rwA h t a j → ¬ (a = 34 ∧ 120 * (120 * h + M0) ≤ j ∧ j < 120 * (120 * h + M1)) → ¬ (a = 0 ∧ (j = 8 ∨ j = 9)) → S a j = D a j
section Run
variable {E D E1 D1 : St} {b h t M0 M1 base : Int}
theorem RD.mem (K : RD E b D h t M0 M1 base) : ∀ m, 0 ≤ m → m < M1 → okM D h m := by
  intro m m0 m1
  by_cases c : m < M0
  · exact (K.2.1.2.1 m m0 c).1
  · exact (K.2.2.2.2.1 m (by omega) m1).1
theorem RD.ke (K : RD E b D h t M0 M1 base) : KE D h M1 := by
  intro m q m0 m1 q0 q1 q2
  have ht := K.1.2.2.1
  have fin : ∀ u, D 28 (120 * h + m) = u → u < 24 → (∀ k, 0 ≤ k → k < D 13 (24 * h + u) → -1 ≤ D 15 (2 * (24 * h + u) + k) ∧ D 15 (2 * (24 * h + u) + k) ≤ u) → kOK D h u (D 33 (3 * (120 * h + m) + q)) → -3 ≤ kEr D h m q := by
    intro u eu u24 B k
    unfold kEr bnd
    rw [eu]
    unfold kOK at k
    split
    · rename_i z
      have := B (D 33 (3 * (120 * h + m) + q) - 100) (by omega) (by omega)
      rw [show 2 * (24 * h + u) + D 33 (3 * (120 * h + m) + q) - 100 = 2 * (24 * h + u) + (D 33 (3 * (120 * h + m) + q) - 100) by omega]
      omega
    · omega
  by_cases c : m < M0
  · have g := K.2.1.2.1 m m0 c
    exact fin _ rfl g.1.2.1.2 (K.2.1.1 _ g.1.2.1.1 g.2.1).2.2.2.1.2 (g.2.2.2 q q0 q1 q2)
  · have g := K.2.2.2.2.1 m (by omega) m1
    exact fin t g.2.1 ht.2 K.2.2.1.2.2.1.2 (g.2.2.1 q q0 q1 q2)
theorem RD.rx (K : RD E b D h t M0 M1 base) (o : offA D D1 h t) : RX D1 h t M0 M1 := by
  obtain ⟨⟨hb, hh, ht, hD, c0, c1⟩, Kc, Kt, Km⟩ := id K
  have f := Km.2.2.2.2.2
  refine ⟨hh, ht, Km.1, ⟨?_, ?_, ?_⟩, fun m m0 m1 => ?_, fun a n a0 a1 n0 n1 => ?_⟩
  · rw [o.eq (a := 24) (by omega)]; exact f.1
  · rw [o.eq (a := 24) (by omega), o.eq (a := 25) (by omega), f.1, f.2.1]; omega
  · rw [o.eq (a := 4) (by omega)]; exact f.2.2.1
  · have g := K.mem m m0 m1
    unfold okM at g ⊢
    rw [o.eq (a := 28) (by omega), o.eq (a := 32) (by omega), o.eq (a := 33) (by omega)]
    exact g
  · rw [o.eq (a := 34) (by omega)]
    exact Kc.2.2.2.2.2.2.1 a n a0 a1 n0 n1
theorem dd_le (H : HT D h t) : (dd (wW D h t)).length ≤ t.toNat := nodup_len t.toNat _ (dd_nodup _) (fun x hx => by have := dd_lt H hx; have := H.2.1; omega)
theorem dd_ab {i : Int} (H : HT D h t) (P : PutI D h t (wW D h t) (wW D h t) 0 D1) (i0 : 0 ≤ i) (i1 : i < D1 20 (24 * h + t)) : ab D1 h t i ∈ dd (wW D h t) := by
  obtain ⟨P1, P2, P3, P4, P5, P6⟩ := P
  rw [P2] at i1
  have c := P3 i.toNat (by omega)
  rw [show (i.toNat : Int) = i by omega] at c
  unfold ab
  rw [c, List.getD_eq_getElem?_getD, List.getElem?_eq_getElem (by omega)]
  exact List.getElem_mem _
theorem RD.bx {D2 : St} (K : RD E b D h t M0 M1 base) (P : PutI D h t (wW D h t) (wW D h t) 0 D1) (o2 : off34 D1 D2) (rw_ : ∀ a, M0 ≤ a → a < M1 → RW D1 D2 h t M0 a) (lo : ∀ j, ¬ (120 * (120 * h + M0) ≤ j ∧ j < 120 * (120 * h + M1)) → D2 34 j = D1 34 j) : RX D2 h t M0 M1 ∧ BX D2 h t M0 M1 := by
  have X := K.rx P.1
  have H := K.ht
  have e : ∀ a, ¬ a = 34 → D2 a = D1 a := fun a ha => funext (fun j => o2 a j ha)
  obtain ⟨x1, x2, x3, x4, x5, x6⟩ := X
  have r5 : ∀ m, 0 ≤ m → m < M1 → okM D2 h m := by
    intro m m0 m1
    have g := x5 m m0 m1
    unfold okM at g ⊢
    rw [e 28 (by decide), e 32 (by decide), e 33 (by decide)]
    exact g
  have r6 : ∀ o n, 0 ≤ o → o < M0 → 0 ≤ n → n < 120 → D2 34 (120 * (120 * h + o) + n) = 0 ∨ D2 34 (120 * (120 * h + o) + n) = 1 := by
    intro o n o0 o1 n0 n1
    rw [lo _ (by omega)]
    exact x6 o n o0 o1 n0 n1
  refine ⟨⟨x1, x2, x3, by rw [e 24 (by decide), e 25 (by decide), e 4 (by decide)]; exact x4, r5, r6⟩, x1, x2, x3, by rw [e 24 (by decide), e 25 (by decide)]; exact ⟨x4.1, x4.2.1⟩, r5, fun o n o0 o1 n0 n1 => ?_, ⟨?_, fun i i0 i1 => ?_⟩, fun s s0 s1 => ?_⟩
  · by_cases c : o < M0
    · exact r6 o n o0 c n0 n1
    · exact (rw_ o (by omega) o1).2.2 n n0 n1
  · rw [e 20 (by decide), P.2.1]
    have := dd_le H
    omega
  · rw [e 20 (by decide)] at i1
    have g := dd_lt H (dd_ab H P i0 i1)
    have : ab D2 h t i = ab D1 h t i := by unfold ab; rw [e 21 (by decide)]
    rw [this]; exact g
  · rw [e 24 (by decide), e 25 (by decide), P.1.eq (a := 24) (by omega), P.1.eq (a := 25) (by omega)]
    have cu := K.2.1.1 s s0 s1
    exact ⟨cu.1.1.2.1.1, cu.1.1.2.1.2.1, cu.2.1.1⟩
theorem RD.cb {D2 S3 : St} (K : RD E b D h t M0 M1 base) (P : PutI D h t (wW D h t) (wW D h t) 0 D1) (G : GI E b D h t (wW D h t) E1) (o2 : off34 D1 D2) (a3 : ∀ a j, ¬ a = 1035 → ¬ a = 1036 → ¬ (a = 1034 ∧ j = 4) → ¬ a = b + 3 → S3 a j = E1 a j) (hs : ∀ m n, M0 ≤ m → m < M1 → 0 ≤ n → n < M0 → (hasO S3 b m n ↔ ovr D2 h m n)) : CB S3 b D2 h t M0 M1 base := by
  have C := CX_of K P G
  obtain ⟨⟨hb, hh, ht, hD, c0, c1⟩, Kc, Kt, Km⟩ := id K
  have e : ∀ a, ¬ a = 34 → D2 a = D1 a := fun a ha => funext (fun j => o2 a j ha)
  have o := P.1
  have oE := G.1
  have f : ∀ a, ¬ a = 34 → (a < 20 ∨ 23 < a) → D2 a = D a := fun a h1 h2 => (e a h1).trans (o.eq h2)
  have s1 : ∀ a j, ¬ a = 1035 → ¬ a = 1036 → ¬ (a = 1034 ∧ j = 4) → ¬ a = b + 3 → ¬ (a = ty b t ∧ (j = 12 ∨ j = 14)) → ¬ a = ty b t + 4 → ¬ a = ty b t + 5 → S3 a j = E a j := fun a j h1 h2 h3 h4 h5 h6 h7 => (a3 a j h1 h2 h3 h4).trans (oE a j h5 h6 h7)
  have M120 := Km.1
  have tt : ∀ j, ¬ j = 12 → ¬ j = 14 → S3 (ty b t) j = E (ty b t) j := fun j h1 h2 => s1 _ _ (by unfold ty; omega) (by unfold ty; omega) (by unfold ty; omega) (by unfold ty; omega) (by omega) (by omega) (by omega)
  refine ⟨hb, ⟨?_, ?_⟩, fun m m0 m1 => ?_, fun m q m0 m1 q0 q1 => ?_, fun s s0 s1' => ?_, ⟨?_, ?_, ?_, ?_, ?_⟩, ⟨?_, fun i i0 i1 => ?_⟩, hs⟩
  · rw [s1 _ _ (by omega) (by omega) (by omega) (by omega) (by unfold ty; omega) (by unfold ty; omega) (by unfold ty; omega)]; exact c0
  · rw [s1 _ _ (by omega) (by omega) (by omega) (by omega) (by unfold ty; omega) (by unfold ty; omega) (by unfold ty; omega)]; exact c1
  · have r := Km.2.2.1 m m0 m1
    have r' : rM E b D2 h m := by
      unfold rM kOr kEr bnd at r ⊢
      rw [f 28 (by decide) (by decide), f 29 (by decide) (by decide), f 30 (by decide) (by decide), f 31 (by decide) (by decide), f 32 (by decide) (by decide), f 33 (by decide) (by decide), f 15 (by decide) (by decide)]; exact r
    exact rM_E (fun j => s1 _ _ (by unfold me; omega) (by unfold me; omega) (by unfold me; omega) (by unfold me; omega) (by unfold me ty; omega) (by unfold me ty; omega) (by unfold me ty; omega)) (fun j => s1 _ _ (by unfold me; omega) (by unfold me; omega) (by unfold me; omega) (by unfold me; omega) (by unfold me ty; omega) (by unfold me ty; omega) (by unfold me ty; omega)) (fun j => s1 _ _ (by unfold me; omega) (by unfold me; omega) (by unfold me; omega) (by unfold me; omega) (by unfold me ty; omega) (by unfold me ty; omega) (by unfold me ty; omega)) r'
  · rw [sou_c (f 15 (by decide) (by decide)) (f 28 (by decide) (by decide)) (f 29 (by decide) (by decide)) (f 32 (by decide) (by decide)) (f 33 (by decide) (by decide)), s1 _ _ (by unfold me; omega) (by unfold me; omega) (by unfold me; omega) (by unfold me; omega) (by unfold me ty; omega) (by unfold me ty; omega) (by unfold me ty; omega), s1 (me b q) _ (by unfold me; omega) (by unfold me; omega) (by unfold me; omega) (by unfold me; omega) (by unfold me ty; omega) (by unfold me ty; omega) (by unfold me ty; omega)]
    exact Km.2.2.2.1 m q m0 m1 q0 q1
  · have r := (Kc.1 s s0 s1').2.2.1.2.2.1
    unfold rF at r ⊢
    rw [f 24 (by decide) (by decide), f 25 (by decide) (by decide), s1 _ _ (by unfold ty; omega) (by unfold ty; omega) (by unfold ty; omega) (by unfold ty; omega) (by unfold ty; omega) (by unfold ty; omega) (by unfold ty; omega), s1 _ _ (by unfold ty; omega) (by unfold ty; omega) (by unfold ty; omega) (by unfold ty; omega) (by unfold ty; omega) (by unfold ty; omega) (by unfold ty; omega)]
    exact r
  · rw [tt _ (by decide) (by decide)]; exact Km.2.2.2.2.1.1
  · rw [tt _ (by decide) (by decide)]; exact Km.2.2.2.2.1.2.1
  · rw [s1 _ _ (by omega) (by omega) (by omega) (by omega) (by unfold ty; omega) (by unfold ty; omega) (by unfold ty; omega)]; exact Km.2.2.2.2.1.2.2.1
  · rw [s1 _ _ (by omega) (by omega) (by omega) (by omega) (by unfold ty; omega) (by unfold ty; omega) (by unfold ty; omega)]; exact Km.2.2.2.2.1.2.2.2
  · rw [tt _ (by decide) (by decide)]; exact Kt.2.2.2.2.1.2.2
  · have r := (C.2.2.2.2.2.2.1 t ht.1 (Int.le_refl _)).2.1
    rw [a3 _ _ (by unfold ty; omega) (by unfold ty; omega) (by unfold ty; omega) (by unfold ty; omega), e 20 (by decide)]; exact r
  · rw [e 20 (by decide)] at i1
    have r := (C.2.2.2.2.2.2.1 t ht.1 (Int.le_refl _)).2.2.1 i i0 i1
    rw [a3 _ _ (by unfold ty; omega) (by unfold ty; omega) (by unfold ty; omega) (by unfold ty; omega), r]
    unfold ab
    rw [e 21 (by decide)]
end Run
