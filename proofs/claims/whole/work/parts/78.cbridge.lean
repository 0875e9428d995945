/-! pure: close: BRIDGES: the class -/
def CB (E : St) (b : Int) (D : St) (h t M0 M1 base : Int) : Prop := (b = 2 ∨ b = 515) ∧ (E 1034 0 = b ∧ E 1034 1 = ty b t) ∧ rMs E b D h M1 ∧ rGs E b D h M1 ∧ (∀ s, 0 ≤ s → s < t → rF E b D h s) ∧ (E (ty b t) 16 = M0 ∧ E (ty b t) 17 = M1 - M0 ∧ E b 3 = M1 ∧ E b 7 = base ∧ E (ty b t) 19 = 0) ∧ (E (ty b t) 12 = D 20 (24 * h + t) ∧ ∀ i, 0 ≤ i → i < D 20 (24 * h + t) → E (ty b t + 4) i = ab D h t i) ∧ ∀ m n, M0 ≤ m → m < M1 → 0 ≤ n → n < M0 → (hasO E b m n ↔ ovr D h m n)
def LC (E : St) (b t base : Int) (L : List (Int × Int)) (S : St) : Prop := (∀ a j, ¬ (a = b ∧ j = 7) → ¬ (a = ty b t ∧ (j = 18 ∨ j = 19)) → ¬ a = b + 4 → ¬ a = b + 5 → S a j = E a j) ∧ S b 7 = base + L.length ∧ S (ty b t) 18 = base ∧ S (ty b t) 19 = L.length ∧ (∀ i : Nat, i < L.length → S (b + 4) (base + i) = (L.getD i (0, 0)).1 ∧ S (b + 5) (base + i) = (L.getD i (0, 0)).2) ∧ ∀ j, j < base → S (b + 4) j = E (b + 4) j ∧ S (b + 5) j = E (b + 5) j
section CBridge
variable {E S D : St} {b h t M0 M1 base : Int} {L : List (Int × Int)}
theorem ixC {base : Int} {i n : Nat} (hb : 0 ≤ base ∧ base ≤ 2760) (hi : i < n) (hn : n ≤ 120) : (0 ≤ base + (i : Int) ∧ base + (i : Int) < 2880) ∧ w32 (base + i + 1) = base + i + 1 ∧ ¬ (base + (n : Int) ≤ base + (i : Int)) ∧ w32 (1000 + (base + (i : Int))) = 1000 + (base + i) ∧ ¬ 1000 + (base + (i : Int)) = -1 := by
  rw [w32_eq (x := base + i + 1) (by omega) (by omega), w32_eq (x := 1000 + (base + (i : Int))) (by omega) (by omega)]
  omega
theorem C_noM {n : Int} {k : Int → Prop} (X : BX D h t M0 M1) (C : CB E b D h t M0 M1 base) (hb : 0 ≤ base ∧ base ≤ 2760) (R : LC E b t base L S) (O : okL D h M0 M1 L) (hn : 0 ≤ n ∧ n < M1) (h1 : cov D h M0 M1 L n → ∀ r, ¬ r = -1 → k r) (h0 : ¬ cov D h M0 M1 L n → k (-1)) : wX2_methodIn S b (ty b t) (E (me b n) 7) k := by
  obtain ⟨cb, ⟨c0, c1⟩, crm, crg, crf, ⟨c16, c17, c3, c7, c19⟩, ⟨c12, c4⟩, co⟩ := C
  have ht := X.2.1
  have hM := X.2.2.1
  have len := okL_len ⟨hM.1, by omega⟩ O
  have d16 : S (ty b t) 16 = M0 := by rw [R.1 _ _ (by unfold ty; omega) (by omega) (by unfold ty; omega) (by unfold ty; omega)]; exact c16
  have d17 : S (ty b t) 17 = M1 - M0 := by rw [R.1 _ _ (by unfold ty; omega) (by omega) (by unfold ty; omega) (by unfold ty; omega)]; exact c17
  have dm : ∀ m, 0 ≤ m → m < 121 → S (me b m) 7 = E (me b m) 7 := fun m m0 m1 => R.1 _ _ (by unfold me; omega) (by unfold me ty; omega) (by unfold me; omega) (by unfold me; omega)
  unfold wX2_methodIn wX2_methodIn_0
  rw [d16, d17]
  intro x ex y ey
  have ex : x = M1 := by rw [ex, w32_eq (by omega) (by omega)]; omega
  rw [ex, ey]
  unfold wX2_methodIn_16
  refine wlp_fr1 (lo := M0) (M1 - M0).toNat (fun i => ∀ m, M0 ≤ m → m < M0 + (i : Int) → ¬ sou D h m n) ?_ ?_ (fun m a c => by omega)
  · intro P i hi hI hP
    show wX2_methodIn_16_b S b (ty b t) (E (me b n) 7) M1 (M0 + i) (fun b0 => P b0) k
    unfold wX2_methodIn_16_b
    refine ⟨fun z => by clear h1 h0 hP; omega, fun _ => ⟨by clear h1 h0 hP; omega, fun z ez => ?_⟩⟩
    have ez : z = me b (M0 + i) := ez
    have g := crg (M0 + i) n (by clear h1 h0 hP; omega) (by clear h1 h0 hP; omega) hn.1 hn.2
    rw [ez, dm _ (by clear h1 h0 hP; omega) (by clear h1 h0 hP; omega)]
    refine ⟨fun c w ew => ?_, fun c => h1 (Or.inl ⟨M0 + i, by clear h1 h0 hP; omega, by clear h1 h0 hP; omega, g.mp c⟩) _ (by clear h1 h0 hP; omega)⟩
    rw [ew, w32_eq (by clear h1 h0 hP; omega) (by clear h1 h0 hP; omega)]
    refine hP (fun m m0 m1 => ?_)
    by_cases e : m = M0 + i
    · rw [e]; exact fun w => c (g.mpr w)
    · exact hI m m0 (by clear h1 h0 hP; omega)
  · intro P hI
    show wX2_methodIn_16_b S b (ty b t) (E (me b n) 7) M1 (M0 + ((M1 - M0).toNat : Int)) (fun b0 => P b0) k
    unfold wX2_methodIn_16_b
    rw [R.2.2.1, R.2.2.2.1]
    refine ⟨fun _ x ex y ey => ?_, fun z => by clear h1 h0; omega⟩
    have ex : x = base + L.length := by rw [ex, w32_eq (by clear h1 h0; omega) (by clear h1 h0; omega)]
    rw [ex, ey]
    have noM : ¬ ∃ x, M0 ≤ x ∧ x < M1 ∧ sou D h x n := fun ⟨x, x0, x1, x2⟩ => hI x x0 (by clear h1 h0; omega) x2
    unfold wX2_methodIn_62
    refine wlp_fr1 (lo := base) L.length (fun i => ∀ j : Nat, j < i → ¬ sou D h (L.getD j (0, 0)).2 n) ?_ ?_ (fun j hj => absurd hj (Nat.not_lt_zero _))
    · intro P i hi hI2 hP
      have ix := ixC hb hi len
      have hp : L.getD i (0, 0) ∈ L := by
        rw [List.getD_eq_getElem?_getD, List.getElem?_eq_getElem hi]
        exact List.getElem_mem hi
      have op := (O.1 _ hp).2.1
      have op2 : (L.getD i (0, 0)).2 < M1 := Int.lt_of_lt_of_le op.2 hM.2.1
      have op3 : (L.getD i (0, 0)).2 < 121 := by clear h1 h0 hP; omega
      show wX2_methodIn_62_b S b (E (me b n) 7) (base + L.length) (base + i) (fun b0 => P b0) k
      unfold wX2_methodIn_62_b
      rw [(R.2.2.2.2.1 i hi).2, ix.2.1, ix.2.2.2.1]
      refine ⟨fun z => absurd z ix.2.2.1, fun _ => ⟨ix.1, ⟨op.1, op3⟩, fun z ez => ?_⟩⟩
      have ez : z = me b (L.getD i (0, 0)).2 := ez
      have g := crg _ n op.1 op2 hn.1 hn.2
      rw [ez, dm _ op.1 op3]
      refine ⟨fun c w ew => ?_, fun c => h1 (Or.inr ⟨_, hp, g.mp c⟩) _ ix.2.2.2.2⟩
      rw [ew]
      refine hP (fun j hj => ?_)
      by_cases e : j = i
      · rw [e]; exact fun w => c (g.mpr w)
      · exact hI2 j (by clear h1 h0 hP; omega)
    · intro P hI2
      show wX2_methodIn_62_b S b (E (me b n) 7) (base + L.length) (base + (L.length : Int)) (fun b0 => P b0) k
      unfold wX2_methodIn_62_b
      refine ⟨fun _ => h0 ?_, fun z => absurd z (Int.lt_irrefl _)⟩
      rintro (g | ⟨p, hp, hs⟩)
      · exact noM g
      · obtain ⟨j, hj, ej⟩ := List.getElem_of_mem hp
        refine hI2 j hj ?_
        have : L.getD j (0, 0) = p := by rw [← ej]; simp [hj]
        rw [this]; exact hs
theorem C_makeBridge {m n : Int} {k : St → Prop} (X : BX D h t M0 M1) (C : CB E b D h t M0 M1 base) (hb : 0 ≤ base ∧ base ≤ 2760) (R : LC E b t base L S) (O : okL D h M0 M1 L) (hm : M0 ≤ m ∧ m < M1) (hn : 0 ≤ n ∧ n < M0) (bm : bare D h m) (fm : ¬ D 31 (120 * h + m) = 2) (ov : ovr D h m n) (hk : ∀ S', LC E b t base (bst D h M0 M1 L m n) S' → k S') : wX0_makeBridge S m n k := by
  have C' := C
  obtain ⟨cb, ⟨c0, c1⟩, crm, crg, crf, ⟨c16, c17, c3, c7, c19⟩, ⟨c12, c4⟩, co⟩ := C
  have ht := X.2.1
  have hM := X.2.2.1
  have len := okL_len ⟨hM.1, by omega⟩ (okL_bst (n := n) O hm hn bm fm)
  have ib := isO_b cb
  have it := isO_t cb ht
  have d0 : S 1034 0 = b := by rw [R.1 _ _ (by omega) (by unfold ty; omega) (by omega) (by omega)]; exact c0
  have d1 : S 1034 1 = ty b t := by rw [R.1 _ _ (by omega) (by unfold ty; omega) (by omega) (by omega)]; exact c1
  unfold wX0_makeBridge wX0_makeBridge_0
  intro w ew
  rw [d0] at ew
  refine ⟨by rw [ew]; exact ib, fun w2 ew2 => ?_⟩
  rw [d1] at ew2
  refine ⟨by rw [ew2]; exact it, fun w3 ew3 => ?_⟩
  rw [d0] at ew3
  refine ⟨by rw [ew3]; exact ib, by omega, fun v ev => ?_⟩
  have ev : v = me b n := by rw [ev, ew3]; rfl
  have e7 : S v 7 = E (me b n) 7 := by rw [ev, R.1 _ _ (by unfold me; omega) (by unfold me ty; omega) (by unfold me; omega) (by unfold me; omega)]
  rw [ew, ew2, e7]
  refine C_noM X C' hb R O ⟨hn.1, by omega⟩ (fun g r hr => ⟨fun z => absurd z hr, fun _ => ?_⟩) (fun g => ⟨fun _ => ?_, fun z => absurd rfl z⟩)
  · unfold wX0_makeBridge_32
    have : bst D h M0 M1 L m n = L := by unfold bst; rw [if_neg (fun w => w.2 g)]
    rw [this] at hk
    exact ⟨fun _ => hk S R, fun z => absurd z (by decide)⟩
  · have add : bst D h M0 M1 L m n = L ++ [(m, n)] := by unfold bst; rw [if_pos ⟨ov, g⟩]
    rw [add] at hk len
    rw [List.length_append, List.length_singleton] at len
    have lt : base + (L.length : Int) < 2880 ∧ 0 ≤ base + (L.length : Int) := by clear hk; omega
    unfold wX0_makeBridge_32
    refine ⟨fun z => absurd rfl z, fun _ x ex => ?_⟩
    rw [d0] at ex
    rw [ex, R.2.1]
    refine ⟨ib, fun z => by clear hk; omega, fun _ x2 ex2 => ?_⟩
    rw [d0] at ex2
    refine ⟨by rw [ex2]; exact ib, fun x3 ex3 => ?_⟩
    rw [d0] at ex3
    rw [ex2, ex3, R.2.1]
    refine ⟨ib, ⟨lt.2, lt.1⟩, fun S1 e1 x4 ex4 => ?_⟩
    have f0 : S1 1034 0 = b := by rw [e1, up_n _ (by clear hk; omega)]; exact d0
    have f7 : S1 b 7 = base + L.length := by rw [e1, up_n _ (by clear hk; omega)]; exact R.2.1
    rw [f0] at ex4
    refine ⟨by rw [ex4]; exact ib, fun x5 ex5 => ?_⟩
    rw [f0] at ex5
    rw [ex4, ex5, f7]
    refine ⟨ib, ⟨lt.2, lt.1⟩, fun S2 e2 x6 ex6 => ?_⟩
    have f0' : S2 1034 0 = b := by rw [e2, up_n _ (by clear hk; omega)]; exact f0
    have f7' : S2 b 7 = base + L.length := by rw [e2, up_n _ (by clear hk; omega)]; exact f7
    rw [f0'] at ex6
    rw [ex6, f7', w32_eq (by clear hk; omega) (by clear hk; omega)]
    refine ⟨ib, fun S3 e3 x7 ex7 => ?_⟩
    have f1 : S3 1034 1 = ty b t := by rw [e3, up_n _ (by clear hk; omega), e2, up_n _ (by clear hk; omega), e1, up_n _ (by clear hk; omega)]; exact d1
    rw [f1] at ex7
    have f19 : S3 (ty b t) 19 = L.length := by rw [e3, up_n _ (by clear hk; unfold ty; omega), e2, up_n _ (by clear hk; unfold ty; omega), e1, up_n _ (by clear hk; unfold ty; omega)]; exact R.2.2.2.1
    rw [ex7, f19, w32_eq (by clear hk; omega) (by clear hk; omega)]
    refine ⟨it, fun S4 e4 => hk S4 ?_⟩
    clear hk
    have oT : ∀ a j, ¬ (a = b + 4 ∧ j = base + L.length) → ¬ (a = b + 5 ∧ j = base + L.length) → ¬ (a = b ∧ j = 7) → ¬ (a = ty b t ∧ j = 19) → S4 a j = S a j := fun a j z1 z2 z3 z4 => by rw [e4, up_n _ z4, e3, up_n _ z3, e2, up_n _ z2, e1, up_n _ z1]
    refine ⟨fun a j z1 z2 z3 z4 => ?_, ?_, ?_, ?_, fun i hi => ?_, fun j hj => ?_⟩
    · rw [oT a j (by omega) (by omega) (by omega) (by omega)]; exact R.1 a j z1 z2 z3 z4
    · rw [e4, up_n _ (by unfold ty; omega), e3, up_s, List.length_append]; simp; omega
    · rw [oT _ _ (by unfold ty; omega) (by unfold ty; omega) (by unfold ty; omega) (by omega)]; exact R.2.2.1
    · rw [e4, up_s]; simp
    · rw [List.length_append, List.length_singleton] at hi
      by_cases e : i = L.length
      · subst e
        refine ⟨?_, ?_⟩
        · rw [e4, up_n _ (by unfold ty; omega), e3, up_n _ (by omega), e2, up_n _ (by omega), e1, up_s]; simp
        · rw [e4, up_n _ (by unfold ty; omega), e3, up_n _ (by omega), e2, up_s]; simp
      · rw [oT _ _ (by omega) (by omega) (by omega) (by unfold ty; omega), oT _ _ (by omega) (by omega) (by omega) (by unfold ty; omega)]
        have := R.2.2.2.2.1 i (by omega)
        rw [this.1, this.2]
        simp [List.getElem?_append_left (show i < L.length by omega)]
    · rw [oT _ _ (by omega) (by omega) (by omega) (by unfold ty; omega), oT _ _ (by omega) (by omega) (by omega) (by unfold ty; omega)]
      exact R.2.2.2.2.2 j hj
theorem LC_hasO (R : LC E b t base L S) (hb : b = 2 ∨ b = 515) (ht : 0 ≤ t ∧ t < 24) {m n : Int} : hasO S b m n ↔ hasO E b m n := by
  unfold hasO
  rw [R.1 _ _ (by omega) (by unfold ty; omega) (by omega) (by omega)]
theorem C_mbTo {m : Int} {k : St → Prop} (X : BX D h t M0 M1) (C : CB E b D h t M0 M1 base) (hb : 0 ≤ base ∧ base ≤ 2760) (R : LC E b t base L S) (O : okL D h M0 M1 L) (hm : M0 ≤ m ∧ m < M1) (bm : bare D h m) (fm : ¬ D 31 (120 * h + m) = 2) (hk : ∀ S', LC E b t base (b2 D h t M0 M1 m L (D 20 (24 * h + t)).toNat) S' → k S') : wX0_makeBridgesTo S m k := by
  have C' := C
  have X' := X
  obtain ⟨cb, ⟨c0, c1⟩, crm, crg, crf, ⟨c16, c17, c3, c7, c19⟩, ⟨c12, c4⟩, co⟩ := C
  obtain ⟨hh, ht, hM, hF, hK, h34, h20, hsx⟩ := X
  have ib := isO_b cb
  have it := isO_t cb ht
  unfold wX0_makeBridgesTo wX0_makeBridgesTo_0 wX0_makeBridgesTo_2
  refine wlp_for (D 20 (24 * h + t)).toNat (fun i S1 => LC E b t base (b2 D h t M0 M1 m L i) S1) ?_ ?_ R
  · intro P i S1 hi R1 hP
    have d0 : S1 1034 0 = b := by rw [R1.1 _ _ (by omega) (by unfold ty; omega) (by omega) (by omega)]; exact c0
    have d1 : S1 1034 1 = ty b t := by rw [R1.1 _ _ (by omega) (by unfold ty; omega) (by omega) (by omega)]; exact c1
    have d12 : S1 (ty b t) 12 = D 20 (24 * h + t) := by rw [R1.1 _ _ (by unfold ty; omega) (by omega) (by unfold ty; omega) (by unfold ty; omega)]; exact c12
    have d4 : S1 (ty b t + 4) i = ab D h t i := by rw [R1.1 _ _ (by unfold ty; omega) (by unfold ty; omega) (by unfold ty; omega) (by unfold ty; omega)]; exact c4 i (by omega) (by omega)
    have hs := h20.2 i (by omega) (by omega)
    have xs := hsx _ hs.1 hs.2
    have rf := crf _ hs.1 hs.2
    have O1 := b2_ok X' O hm bm fm i (by omega)
    show wX0_makeBridgesTo_2_b S1 m i (fun b0 b1 => P (b0, b1)) k
    unfold wX0_makeBridgesTo_2_b
    intro w ew
    rw [d1] at ew
    rw [ew, d12]
    refine ⟨it, fun z => by omega, fun _ w2 ew2 => ?_⟩
    rw [d0] at ew2
    refine ⟨by rw [ew2]; exact ib, fun w3 ew3 => ?_⟩
    rw [d1] at ew3
    rw [ew3, d4]
    refine ⟨it, by omega, by omega, fun v ev x ex y ey => ?_⟩
    have ev : v = ty b (ab D h t i) := by rw [ev, ew2]; rfl
    have d16 : S1 v 16 = D 24 (24 * h + ab D h t i) := by rw [ev, R1.1 _ _ (by unfold ty; omega) (by unfold ty; omega) (by unfold ty; omega) (by unfold ty; omega)]; exact rf.1
    have d17 : S1 v 17 = D 25 (24 * h + ab D h t i) := by rw [ev, R1.1 _ _ (by unfold ty; omega) (by unfold ty; omega) (by unfold ty; omega) (by unfold ty; omega)]; exact rf.2
    rw [d16, d17, w32_eq (by omega) (by omega)] at ex
    rw [d16] at ey
    rw [ex, ey]
    obtain ⟨s, es⟩ : ∃ s, s = ab D h t i := ⟨_, rfl⟩
    rw [← es] at hs xs ⊢
    unfold wX0_makeBridgesTo_48
    refine wlp_fr (lo := D 24 (24 * h + s)) (D 25 (24 * h + s)).toNat (fun j S2 => LC E b t base (b3 D h M0 M1 m s (b2 D h t M0 M1 m L i) j) S2) ?_ ?_ R1
    · intro P' j S2 hj R2 hP'
      have f0 : S2 1034 0 = b := by rw [R2.1 _ _ (by omega) (by unfold ty; omega) (by omega) (by omega)]; exact c0
      have O2 := b3_ok X' O1 hm hs bm fm j (by omega)
      obtain ⟨n, en⟩ : ∃ n, n = D 24 (24 * h + s) + (j : Int) := ⟨_, rfl⟩
      have hn : 0 ≤ n ∧ n < M0 := by omega
      have w1 : w32 (n + 1) = n + 1 := w32_eq (by omega) (by omega)
      have nx : b3 D h M0 M1 m s (b2 D h t M0 M1 m L i) (j + 1) = bst D h M0 M1 (b3 D h M0 M1 m s (b2 D h t M0 M1 m L i) j) m n := by rw [b3, ← en]
      rw [← en] at hP' ⊢
      show wX0_makeBridgesTo_48_b S2 m i (D 24 (24 * h + s) + D 25 (24 * h + s)) n (fun b0 b1 => P (b0, b1)) (fun b0 b1 => P' (b0, b1)) k
      unfold wX0_makeBridgesTo_48_b
      rw [w1]
      refine ⟨fun z => by omega, fun _ w5 ew5 => ?_⟩
      rw [f0] at ew5
      rw [ew5]
      have oi := (LC_hasO R2 cb ht (m := m) (n := n)).trans (co m n hm.1 hm.2 hn.1 hn.2)
      refine ⟨ib, C_hasO (by omega) (by omega) (fun g => ⟨fun z => absurd z (by decide), fun _ => C_makeBridge X' C' hb R2 O2 hm hn bm fm (oi.mp g) (fun S3 R3 x ex => ?_)⟩) (fun g => ⟨fun _ x ex => ?_, fun z => absurd rfl z⟩)⟩
      · rw [ex]; exact hP' S3 (by rw [nx]; exact R3)
      · rw [ex]
        refine hP' S2 ?_
        have : bst D h M0 M1 (b3 D h M0 M1 m s (b2 D h t M0 M1 m L i) j) m n = b3 D h M0 M1 m s (b2 D h t M0 M1 m L i) j := by unfold bst; rw [if_neg (fun w => g (oi.mpr w.1))]
        rw [nx, this]; exact R2
    · intro P' S2 R2
      show wX0_makeBridgesTo_48_b S2 m i (D 24 (24 * h + s) + D 25 (24 * h + s)) (D 24 (24 * h + s) + ((D 25 (24 * h + s)).toNat : Int)) (fun b0 b1 => P (b0, b1)) (fun b0 b1 => P' (b0, b1)) k
      unfold wX0_makeBridgesTo_48_b
      refine ⟨fun _ x ex => ?_, fun z => by omega⟩
      rw [ex, w32_eq (by omega) (by omega)]
      refine hP S2 ?_
      show LC E b t base (b3 D h M0 M1 m (ab D h t i) (b2 D h t M0 M1 m L i) (D 25 (24 * h + ab D h t i)).toNat) S2
      rw [← es]; exact R2
  · intro P S1 R1
    have d1 : S1 1034 1 = ty b t := by rw [R1.1 _ _ (by omega) (by unfold ty; omega) (by omega) (by omega)]; exact c1
    have d12 : S1 (ty b t) 12 = D 20 (24 * h + t) := by rw [R1.1 _ _ (by unfold ty; omega) (by omega) (by unfold ty; omega) (by unfold ty; omega)]; exact c12
    show wX0_makeBridgesTo_2_b S1 m ((D 20 (24 * h + t)).toNat : Int) (fun b0 b1 => P (b0, b1)) k
    unfold wX0_makeBridgesTo_2_b
    intro w ew
    rw [d1] at ew
    rw [ew, d12]
    exact ⟨it, fun _ => hk S1 R1, fun z => by omega⟩
theorem C_makeBridges {k : St → Prop} (X : BX D h t M0 M1) (C : CB E b D h t M0 M1 base) (hb : 0 ≤ base ∧ base ≤ 2760) (hk : ∀ S', LC E b t base (b1 D h t M0 M1 (M1 - M0).toNat) S' → k S') : wX0_makeBridges E k := by
  have C' := C
  have X' := X
  obtain ⟨cb, ⟨c0, c1⟩, crm, crg, crf, ⟨c16, c17, c3, c7, c19⟩, ⟨c12, c4⟩, co⟩ := C
  obtain ⟨hh, ht, hM, hF, hK, h34, h20, hsx⟩ := X
  have ib := isO_b cb
  have it := isO_t cb ht
  unfold wX0_makeBridges wX0_makeBridges_0
  intro w ew
  rw [c1] at ew
  refine ⟨by rw [ew]; exact it, fun w2 ew2 => ?_⟩
  rw [c0] at ew2
  refine ⟨by rw [ew2]; exact ib, fun T eT w3 ew3 => ?_⟩
  rw [ew, ew2, c7] at eT
  have RT : LC E b t base [] T := by
    refine ⟨fun a j z1 z2 z3 z4 => ?_, ?_, ?_, ?_, fun i hi => absurd hi (Nat.not_lt_zero _), fun j _ => ?_⟩
    · rw [eT, up_n _ (by omega)]
    · rw [eT, up_n _ (by unfold ty; omega), c7]; simp
    · rw [eT, up_s]
    · rw [eT, up_n _ (by omega), c19]; rfl
    · rw [eT, up_n _ (by unfold ty; omega), up_n _ (by unfold ty; omega)]; exact ⟨rfl, rfl⟩
  have t1 : T 1034 1 = ty b t := by rw [RT.1 _ _ (by omega) (by unfold ty; omega) (by omega) (by omega)]; exact c1
  rw [t1] at ew3
  refine ⟨by rw [ew3]; exact it, fun x ex => ?_⟩
  have t16 : T (ty b t) 16 = M0 := by rw [RT.1 _ _ (by unfold ty; omega) (by omega) (by unfold ty; omega) (by unfold ty; omega)]; exact c16
  rw [ew3, t16] at ex
  rw [ex]
  unfold wX0_makeBridges_22
  refine wlp_fr (lo := M0) (M1 - M0).toNat (fun j S1 => LC E b t base (b1 D h t M0 M1 j) S1) ?_ ?_ RT
  · intro P j S1 hj R1 hP
    have d0 : S1 1034 0 = b := by rw [R1.1 _ _ (by omega) (by unfold ty; omega) (by omega) (by omega)]; exact c0
    have d3 : S1 b 3 = M1 := by rw [R1.1 _ _ (by omega) (by unfold ty; omega) (by omega) (by omega)]; exact c3
    have O1 := b1_ok X' j (by omega)
    have rm := crm (M0 + j) (by omega) (by omega)
    have dm : ∀ i, S1 (me b (M0 + j)) i = E (me b (M0 + j)) i := fun i => R1.1 _ _ (by unfold me; omega) (by unfold me ty; omega) (by unfold me; omega) (by unfold me; omega)
    show wX0_makeBridges_22_b S1 (M0 + j) (fun b0 b1 => P (b0, b1)) k
    unfold wX0_makeBridges_22_b
    intro w4 ew4
    rw [d0] at ew4
    rw [ew4, d3]
    refine ⟨ib, fun z => by omega, fun _ w5 ew5 => ?_⟩
    rw [d0] at ew5
    refine ⟨by rw [ew5]; exact ib, by omega, fun v ev => ?_⟩
    have ev : v = me b (M0 + j) := by rw [ev, ew5]; rfl
    have w1 : w32 (M0 + j + 1) = M0 + j + 1 := w32_eq (by omega) (by omega)
    have no : ¬ (bare D h (M0 + j) ∧ ¬ D 31 (120 * h + (M0 + j)) = 2) → ∀ x : Int, x = w32 (M0 + j + 1) → P (x, S1) := by
      intro z x ex
      rw [ex, w1]
      exact hP S1 (by show LC E b t base (b1 D h t M0 M1 (j + 1)) S1; rw [b1, if_neg z]; exact R1)
    unfold wX3_isFree wX3_isFree_0
    rw [ev, dm, dm, rm.2.2.1, rm.2.2.2.1]
    refine ⟨fun z => ⟨fun _ => no (fun w => w.1.2 z), fun z2 => absurd rfl z2⟩, fun z1 => ⟨fun z => ⟨fun _ => no (fun w => w.1.1 z), fun z2 => absurd rfl z2⟩, fun z2 => ⟨fun z => absurd z (by decide), fun _ => ⟨fun z3 => no (fun w => w.2 z3), fun z3 => C_mbTo X' C' hb R1 O1 (by omega) ⟨z2, z1⟩ z3 (fun S2 R2 x ex => ?_)⟩⟩⟩⟩
    rw [ex, w1]
    exact hP S2 (by show LC E b t base (b1 D h t M0 M1 (j + 1)) S2; rw [b1, if_pos ⟨⟨z2, z1⟩, z3⟩]; exact R2)
  · intro P S1 R1
    have d0 : S1 1034 0 = b := by rw [R1.1 _ _ (by omega) (by unfold ty; omega) (by omega) (by omega)]; exact c0
    have d3 : S1 b 3 = M1 := by rw [R1.1 _ _ (by omega) (by unfold ty; omega) (by omega) (by omega)]; exact c3
    show wX0_makeBridges_22_b S1 (M0 + ((M1 - M0).toNat : Int)) (fun b0 b1 => P (b0, b1)) k
    unfold wX0_makeBridges_22_b
    intro w4 ew4
    rw [d0] at ew4
    rw [ew4, d3]
    exact ⟨ib, fun _ => hk S1 R1, fun z => by omega⟩
end CBridge
