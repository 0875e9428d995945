/-! pure: close: the type just closed -/
section Closed2
variable {E D E1 D1 S' D3 D2 : St} {b h t M0 M1 base : Int} {L : List (Int × Int)}
theorem erL_self (D : St) (h a : Int) : erL D h a a := ⟨rfl, rfl, fun _ _ _ => rfl⟩
theorem sou_self (D : St) (h a : Int) : sou D h a a := ⟨erL_self D h a, rfl⟩
/-- whom t has above: a class above comes by its parent -/
theorem cd_par {x : Int} (K : RD E b D h t M0 M1 base) (hx : x ∈ dd (wW D h t)) (nf : ¬ D 11 (24 * h + x) = 2) : (0 ≤ D 19 (24 * h + t) ∧ D 19 (24 * h + t) < t) ∧ und D h (D 19 (24 * h + t)) x := by
  have H := K.ht
  obtain ⟨⟨hb, hh, ht, hD, c0, c1⟩, Kc, Kt, Km⟩ := id K
  have rr := Kt.2.2.2.1
  obtain ⟨e, e1, e2⟩ := (dd_mem _ _).mp hx
  obtain ⟨n, nn, g⟩ := wL_case _ e e1
  have n1 : n < D 16 (24 * h + t) := by have := rr.1; omega
  have rn := rr.2.1 n nn.1 n1
  rcases g with g | ⟨k, kk, g⟩
  · have ex : rf D h t n = x := by rw [g] at e2; exact e2
    have w := rn.2.2 (by rw [ex]; exact nf)
    rw [w.2.1]
    exact ⟨rn.1, Or.inl ex⟩
  · have ex : ab D h (rf D h t n) k = x := by rw [g] at e2; exact e2
    have cu := Kc.1 _ rn.1.1 rn.1.2
    have a22 := (cu.2.2.2.2 k kk.1 kk.2).1
    rw [ex] at a22
    have lx := cu.1.2.1.2.2.1 k kk.1 kk.2
    rw [ex] at lx
    have v := cu.1.2.2
    have v7 := (v.2.2.2.2.2.2 x lx.1 (by omega) a22).2 nf
    have nfr : ¬ D 11 (24 * h + rf D h t n) = 2 := fun z => by
      have := v.2.2.1 z
      have := v7.1
      omega
    have w := rn.2.2 nfr
    rw [w.2.1]
    exact ⟨rn.1, Or.inr a22⟩
theorem cd_mI {m : Int} (D3T : okT D3 h t) (f : D3 24 (24 * h + t) = M0 ∧ D3 25 (24 * h + t) = M1 - M0) (hs : ∀ a c, sou D3 h a c ↔ sou D h a c) (nt : ¬ twin D h M0 M1) (hm : M0 ≤ m ∧ m < M1) : mI D3 h t m = m := by
  refine (mI_eq D3T (Or.inl ⟨?_, ?_, sou_self _ _ _, fun y y0 y1 z => ?_⟩)).symm
  · rw [f.1]; exact hm.1
  · rw [f.1, f.2]; omega
  · rw [f.1] at y0
    exact nt ⟨y, y0, by omega, m, by omega, hm.2, ((hs y m).mp z).1⟩
theorem cd_mB {i : Nat} (D3T : okT D3 h t) (f : D3 24 (24 * h + t) = M0 ∧ D3 25 (24 * h + t) = M1 - M0) (f5 : fR5 D D3 h t base L) (hs : ∀ a c, sou D3 h a c ↔ sou D2 h a c) (O : okL D2 h M0 M1 L) (hi : i < L.length) : mI D3 h t (L.getD i (0, 0)).2 = 1000 + (base + i) := by
  obtain ⟨q1, q2, ⟨q3, q4, q5⟩, q6, q7⟩ := f5
  have hp : L.getD i (0, 0) ∈ L := by
    rw [List.getD_eq_getElem?_getD, List.getElem?_eq_getElem hi]
    exact List.getElem_mem hi
  refine (mI_eq D3T (Or.inr ⟨fun y y0 y1 z => ?_, Or.inl ⟨?_, ?_, ?_, fun c c0 c1 z => ?_⟩⟩)).symm
  · rw [f.1] at y0
    rw [f.1, f.2] at y1
    exact (O.1 _ hp).2.2.2.2 y y0 (by omega) ((hs _ _).mp z)
  · rw [q4]; omega
  · rw [q4, q5]; omega
  · rw [show 1000 + (base + (i : Int)) - 1000 = base + i by omega, (q6 i hi).2]
    exact sou_self _ _ _
  · rw [q4] at c0
    have e := (q6 (c - base).toNat (by omega)).2
    rw [show base + ((c - base).toNat : Int) = c by omega] at e
    rw [e] at z
    exact O.2 (c - base).toNat i (by omega) hi ((hs _ _).mp z)
theorem cd_new (K : RD E b D h t M0 M1 base) (P : PutI D h t (wW D h t) (wW D h t) 0 D1) (G : GI E b D h t (wW D h t) E1) (A : AgR D D3 h t M0 base) (fD : fDe D D3) (f1 : ∀ a, 20 ≤ a → a ≤ 23 → D3 a = D1 a) (f5 : fR5 D D3 h t base L) (s : fSe E S' b t) (sg : S' (ty b t) 12 = E1 (ty b t) 12 ∧ S' (ty b t) 14 = E1 (ty b t) 14 ∧ S' (ty b t + 4) = E1 (ty b t + 4) ∧ S' (ty b t + 5) = E1 (ty b t + 5) ∧ S' (ty b t) 18 = base ∧ S' (ty b t) 19 = L.length) (nt : ¬ twin D h M0 M1) (O : okL D h M0 M1 L) : clU S' b D3 h t M1 (base + L.length) := by
  have H := K.ht
  obtain ⟨ga, gs, gi, gv⟩ := gathered K P G
  have kmem := K.mem
  obtain ⟨⟨hb, hh, ht, hD, c0, c1⟩, Kc, Kt, Km⟩ := id K
  have hM := Km.1
  have len := okL_len ⟨hM.1, by omega⟩ O
  have hbase := Kc.2.2.2.1
  have e : ∀ a, (a < 20 ∨ 23 < a) → ¬ a = 34 → ¬ a = 5 → ¬ a = 26 → ¬ a = 27 → ¬ a = 35 → ¬ a = 36 → D3 a = D a := fD
  have e11 := e 11 (by omega) (by omega) (by omega) (by omega) (by omega) (by omega) (by omega)
  have e13 := e 13 (by omega) (by omega) (by omega) (by omega) (by omega) (by omega) (by omega)
  have e15 := e 15 (by omega) (by omega) (by omega) (by omega) (by omega) (by omega) (by omega)
  have e16 := e 16 (by omega) (by omega) (by omega) (by omega) (by omega) (by omega) (by omega)
  have e19 := e 19 (by omega) (by omega) (by omega) (by omega) (by omega) (by omega) (by omega)
  have e24 := e 24 (by omega) (by omega) (by omega) (by omega) (by omega) (by omega) (by omega)
  have e25 := e 25 (by omega) (by omega) (by omega) (by omega) (by omega) (by omega) (by omega)
  have e28 := e 28 (by omega) (by omega) (by omega) (by omega) (by omega) (by omega) (by omega)
  have e29 := e 29 (by omega) (by omega) (by omega) (by omega) (by omega) (by omega) (by omega)
  have e30 := e 30 (by omega) (by omega) (by omega) (by omega) (by omega) (by omega) (by omega)
  have e31 := e 31 (by omega) (by omega) (by omega) (by omega) (by omega) (by omega) (by omega)
  have e32 := e 32 (by omega) (by omega) (by omega) (by omega) (by omega) (by omega) (by omega)
  have e33 := e 33 (by omega) (by omega) (by omega) (by omega) (by omega) (by omega) (by omega)
  have e20 := f1 20 (by omega) (by omega)
  have e21 := f1 21 (by omega) (by omega)
  have e22 := f1 22 (by omega) (by omega)
  have e23 := f1 23 (by omega) (by omega)
  have d24 : D 24 (24 * h + t) = M0 := Km.2.2.2.2.2.1
  have d25 : D 25 (24 * h + t) = M1 - M0 := Km.2.2.2.2.2.2.1
  have hs : ∀ a c, sou D3 h a c ↔ sou D h a c := fun a c => sou_c e15 e28 e29 e32 e33
  have km3 : ∀ m, 0 ≤ m → m < M1 → okM D3 h m := by
    intro m m0 m1
    have g := kmem m m0 m1
    unfold okM at g ⊢
    rw [e28, e32, e33]; exact g
  have br : ∀ c, D3 26 (24 * h + t) ≤ c → c < D3 26 (24 * h + t) + D3 27 (24 * h + t) → ∃ i : Nat, i < L.length ∧ c = base + i ∧ D3 35 (7200 * h + c) = (L.getD i (0, 0)).1 ∧ D3 36 (7200 * h + c) = (L.getD i (0, 0)).2 ∧ L.getD i (0, 0) ∈ L := by
    obtain ⟨q1, q2, ⟨q3, q4, q5⟩, q6, q7⟩ := f5
    rw [q4, q5]
    intro c z0 z1
    have hi : (c - base).toNat < L.length := by omega
    have g := q6 (c - base).toNat hi
    have ec : base + ((c - base).toNat : Int) = c := by omega
    rw [ec] at g
    refine ⟨(c - base).toNat, hi, ec.symm, g.1, g.2, ?_⟩
    rw [List.getD_eq_getElem?_getD, List.getElem?_eq_getElem hi]
    exact List.getElem_mem hi
  have q4 := f5.2.2.1.2.1
  have q5 := f5.2.2.1.2.2
  have T3 : okT D3 h t := by
    refine ⟨ht, ?_, ?_, fun x x0 x1 => ?_, fun c z0 z1 => ?_⟩
    · rw [e24, e25, d24, d25]; omega
    · rw [q4, q5]; omega
    · rw [e24, d24] at x0
      rw [e24, e25, d24, d25] at x1
      exact km3 x (by omega) (by omega)
    · obtain ⟨i, hi, ec, g1, g2, g3⟩ := br c z0 z1
      rw [g2]
      have := (O.1 _ g3).2.1
      exact km3 _ this.1 (by omega)
  have ddl := dd_le H
  have d20 : D3 20 (24 * h + t) = (dd (wW D h t)).length := by rw [e20]; exact P.2.1
  have abm : ∀ i, 0 ≤ i → i < D3 20 (24 * h + t) → ab D3 h t i ∈ dd (wW D h t) := by
    intro i i0 i1
    have : ab D3 h t i = ab D1 h t i := by unfold ab; rw [e21]
    rw [this]
    exact dd_ab H P i0 (by rw [← e20]; exact i1)
  have U3 : okU D3 h t := by
    refine ⟨?_, ?_, fun i i0 i1 => dd_lt H (abm i i0 i1), fun c z0 z1 => ?_⟩
    · rw [e19]
      rcases Kt.2.2.2.2.2.2.2.2 with w | w
      · exact Or.inl w
      · right
        have := (Kt.2.2.2.1.2.1 0 (by decide) w.1).1
        rw [w.2.1]; exact this
    · rw [d20]; omega
    · obtain ⟨i, hi, ec, g1, g2, g3⟩ := br c z0 z1
      rw [g1]
      have := (O.1 _ g3).1
      exact km3 _ (by omega) this.2
  have V3 : okV D3 h t := by
    refine ⟨?_, ?_, fun z => ?_, fun z => ?_, fun m m0 m1 => ?_, fun c z0 z1 => ?_, fun x x0 x1 z => ?_⟩
    · rw [e11]; exact Kt.2.2.2.2.2.2.2.1
    · rw [e16]; exact Kt.2.2.2.1.1
    · rw [e11] at z
      rw [e19]
      rcases Kt.2.2.2.2.2.2.2.2 with w | w
      · exact w
      · exact absurd z ((Kt.2.2.2.1.2.1 0 (by decide) w.1).2.2 w.2.2).2.2
    · rw [e19] at z ⊢
      rw [e11]
      rcases Kt.2.2.2.2.2.2.2.2 with w | w
      · omega
      · rw [w.2.1]; exact w.2.2
    · rw [e24, d24] at m0
      rw [e24, e25, d24, d25] at m1
      have g := Km.2.1 m m0 (by omega)
      rw [e28, e11, e30]
      exact ⟨g.2.1, cd_mI T3 ⟨by rw [e24]; exact d24, by rw [e25]; exact d25⟩ hs nt ⟨m0, by omega⟩, g.2.2.2⟩
    · obtain ⟨i, hi, ec, g1, g2, g3⟩ := br c z0 z1
      have o := O.1 _ g3
      rw [g1, g2, e24, e25, d24, d25, e31, e30, ec]
      refine ⟨⟨o.1.1, by omega⟩, cd_mB T3 ⟨by rw [e24]; exact d24, by rw [e25]; exact d25⟩ f5 hs O hi, o.2.2.1.1, o.2.2.2.1, o.2.2.1.2⟩
    · rw [e22] at z
      have hx := (gi x x0 x1).mp z
      have lx := dd_lt H hx
      rw [e11, e19]
      refine ⟨lx.2, fun nf => ?_⟩
      have p := cd_par K hx nf
      exact ⟨p.1.1, (tr_und A p.1 ⟨x0, x1⟩).mpr p.2⟩
  have eq0 : ∀ j, ¬ j = 12 → ¬ j = 14 → ¬ j = 18 → ¬ j = 19 → S' (ty b t) j = E (ty b t) j := fun j h1 h2 h3 h4 => s _ _ (by unfold ty; omega) (by unfold ty; omega) (by unfold ty; omega) (by unfold ty; omega) (by unfold ty; omega) (by unfold ty; omega) (by unfold ty; omega) (by unfold ty; omega) (by unfold ty; omega) (by unfold ty; omega)
  have eq : ∀ c j, 1 ≤ c → c ≤ 3 → S' (ty b t + c) j = E (ty b t + c) j := fun c j h1 h2 => s _ _ (by unfold ty; omega) (by unfold ty; omega) (by unfold ty; omega) (by unfold ty; omega) (by unfold ty; omega) (by unfold ty; omega) (by unfold ty; omega) (by unfold ty; omega) (by unfold ty; omega) (by unfold ty; omega)
  refine ⟨⟨T3, U3, V3⟩, ⟨?_, ?_, fun c z0 z1 => ?_⟩, ⟨?_, ?_, ?_, ?_, ?_, ?_⟩, ?_, fun i i0 i1 => ?_⟩
  · rw [e24, e25, d24, d25]; omega
  · rw [q4, q5]; omega
  · obtain ⟨i, hi, ec, g1, g2, g3⟩ := br c z0 z1
    rw [g2]
    have := (O.1 _ g3).2.1
    omega
  · have r := Kt.1
    unfold rT at r ⊢
    rw [e 8 (by omega) (by omega) (by omega) (by omega) (by omega) (by omega) (by omega), e 9 (by omega) (by omega) (by omega) (by omega) (by omega) (by omega) (by omega), e 10 (by omega) (by omega) (by omega) (by omega) (by omega) (by omega) (by omega), e11, e 12 (by omega) (by omega) (by omega) (by omega) (by omega) (by omega) (by omega), e13, e 14 (by omega) (by omega) (by omega) (by omega) (by omega) (by omega) (by omega), e15]
    rw [eq0 0 (by decide) (by decide) (by decide) (by decide), eq0 1 (by decide) (by decide) (by decide) (by decide), eq0 2 (by decide) (by decide) (by decide) (by decide), eq0 3 (by decide) (by decide) (by decide) (by decide), eq0 4 (by decide) (by decide) (by decide) (by decide), eq0 5 (by decide) (by decide) (by decide) (by decide), eq0 6 (by decide) (by decide) (by decide) (by decide), show S' (ty b t + 1) = E (ty b t + 1) from funext (fun j => eq 1 j (by decide) (by decide)), show S' (ty b t + 2) = E (ty b t + 2) from funext (fun j => eq 2 j (by decide) (by decide))]
    exact r
  · have r := Kt.2.1
    unfold rR at r ⊢
    rw [e16, e19, e 17 (by omega) (by omega) (by omega) (by omega) (by omega) (by omega) (by omega), eq0 9 (by decide) (by decide) (by decide) (by decide), eq0 11 (by decide) (by decide) (by decide) (by decide), show S' (ty b t + 3) = E (ty b t + 3) from funext (fun j => eq 3 j (by decide) (by decide))]
    exact r
  · unfold rF
    rw [e24, e25, d24, d25, eq0 16 (by decide) (by decide) (by decide) (by decide), eq0 17 (by decide) (by decide) (by decide) (by decide)]
    exact ⟨Km.2.2.2.2.1.1, Km.2.2.2.2.1.2.1⟩
  · unfold rA ab at ga ⊢
    rw [sg.1, sg.2.1, sg.2.2.1, e20, e21, e22]
    exact ga
  · have c13 : D1 13 = D 13 := P.1.eq (a := 13) (by omega)
    unfold rS und sVar at gs ⊢
    rw [sg.2.2.2.1, e22, e23, e13, ← c13]
    exact gs
  · unfold rB
    rw [q4, q5]
    exact ⟨sg.2.2.2.2.1, sg.2.2.2.2.2⟩
  · rw [e13, e15]; exact Kt.2.2.1
  · have m := abm i i0 i1
    have lx := dd_lt H m
    rw [e22, e13]
    refine ⟨(gi _ lx.1 (by omega)).mpr m, fun k k0 k1 => ?_⟩
    have g := gv _ m k k0 k1
    unfold sVar at g ⊢
    rw [e23]
    unfold aOK at g ⊢
    rw [e13]; exact g
end Closed2
