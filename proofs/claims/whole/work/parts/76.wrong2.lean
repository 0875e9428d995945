/-! pure: close: FAULTS 9, 10: the class; both alike -/
def stan (D S : St) (b h t m n : Int) : Prop := abv D h t n ∧ seL D h t m n ∧ ¬ D 30 (120 * h + m) = 0 ∧ ¬ D 30 (120 * h + n) = 0 ∧ (rch D h t n ∨ hasO S b m n)
def brkC (D S : St) (b h t M0 M1 : Int) : Prop := ∃ m, M0 ≤ m ∧ m < M1 ∧ ∃ n, 0 ≤ n ∧ n < M0 ∧ stan D S b h t m n ∧ bad D h t m n
def clsC (D S : St) (b h t M0 M1 : Int) : Prop := ∃ a, 0 ≤ a ∧ a < M0 ∧ ∃ c, a + 1 ≤ c ∧ c < M0 ∧ quar D h t a c ∧ ¬ ∃ x, M0 ≤ x ∧ x < M1 ∧ (hasO S b x a ∨ hasO S b x c)
section Wrong
variable {S E D : St} {b h t M0 M1 : Int}
theorem C_result {n : Int} {k : Int → Prop} (C : CX E b D h t M0 M1) (K : KK S D h t M1) (hn : 0 ≤ n ∧ n < M1) (un : und D h t (D 28 (120 * h + n))) (hk : k (kSeen D h t n 2)) : wX0_resultSeen S n k := by
  have hM := C.2.2.2.1
  unfold wX0_resultSeen wX0_resultSeen_0
  rw [w32_eq (x := n * 3) (by omega) (by omega), w32_eq (by omega) (by omega), show n * 3 + 2 = 3 * n + 2 by omega, K n hn.1 hn.2 un 2 (by decide) (by decide)]
  refine ⟨by omega, ?_⟩
  unfold kOr
  rw [if_neg (by omega)]
  exact hk
theorem C_isNarrow {m n : Int} {k : Int → Prop} (C : CX E b D h t M0 M1) (R : CR S E b t) (hm : 0 ≤ m ∧ m < M1) (hn : 0 ≤ n ∧ n < M1) (um : und D h t (D 28 (120 * h + m))) (un : und D h t (D 28 (120 * h + n))) (h1 : nar D h t (kSeen D h t m 2) (kSeen D h t n 2) → k 1) (h0 : ¬ nar D h t (kSeen D h t m 2) (kSeen D h t n 2) → k 0) : wX0_isNarrow S (kSeen D h t m 2) (kSeen D h t n 2) k := by
  have ht := C.2.2.1
  have kx := (C.2.2.2.2.2.2.2.2.2.1 m hm.1 hm.2 um 2 (by decide) (by decide) (fun z => absurd z (by decide))).2
  have ky := (C.2.2.2.2.2.2.2.2.2.1 n hn.1 hn.2 un 2 (by decide) (by decide) (fun z => absurd z (by decide))).2
  have tv := C.2.2.2.2.2.2.2.2.2.2 t ht.1 (Int.le_refl _)
  obtain ⟨x, ex⟩ : ∃ x, x = kSeen D h t m 2 := ⟨_, rfl⟩
  obtain ⟨y, ey⟩ : ∃ y, y = kSeen D h t n 2 := ⟨_, rfl⟩
  rw [← ex] at kx h1 h0 ⊢
  rw [← ey] at ky h1 h0 ⊢
  have ib := isO_b C.1
  have fin : ∀ c, c = bnd D h t x → c ≤ t → ¬ x = y → wX0_isNarrow_29 S y c k := by
    intro c ec ct ne
    unfold wX0_isNarrow_29 wX0_isNarrow_48 wX0_isNarrow_49
    have no : ¬ ((0 ≤ y ∧ y < 24) ∧ (0 ≤ c ∧ c < 24) ∧ und D h c y) → k 0 := by
      intro z
      refine h0 (fun g => ?_)
      rcases g with g | g
      · exact ne g
      · rw [← ec] at g; exact z g
    refine ⟨fun z => ⟨fun _ => no (fun g => by have := g.2.1.1; omega), fun z2 => absurd rfl z2⟩, fun z => ⟨fun z2 => ⟨fun _ => no (fun g => by have := g.1.1; omega), fun z3 => absurd rfl z3⟩, fun z2 => ⟨fun z3 => ⟨fun _ => no (fun g => by have := g.1.2; omega), fun z4 => absurd rfl z4⟩, fun z3 => ⟨fun z4 => absurd z4 (by decide), fun _ w ew => ?_⟩⟩⟩⟩
    rw [R.2.1] at ew
    rw [ew]
    have y24 : y < 24 := by omega
    exact ⟨ib, C_isUnder R.1 ⟨z, by omega⟩ ⟨z2, y24⟩ (fun _ => (C.2.2.2.2.2.2.1 c z ct).2) (fun u => ⟨fun z => absurd z (by decide), fun _ => h1 (Or.inr ⟨⟨z2, y24⟩, by rw [← ec]; exact ⟨z, by omega⟩, by rw [← ec]; exact u⟩)⟩) (fun u => ⟨fun _ => no (fun g => u g.2.2), fun z => absurd rfl z⟩)⟩
  unfold wX0_isNarrow wX0_isNarrow_0
  refine ⟨fun ne => ⟨fun z => fin x (by unfold bnd; rw [if_neg (by omega)]) (by omega) ne, fun z w ew => ?_⟩, fun e => h1 (Or.inl e)⟩
  rw [R.2.2] at ew
  rw [ew, w32_eq (by omega) (by omega)]
  have b1 := tv.2 (x - 100) (by omega) (by omega)
  have rt := (C.2.2.2.2.2.2.1 t ht.1 (Int.le_refl _)).1.2.2.2.2.2.2.2 (x - 100) (by omega) (by omega)
  have e2 : S (ty b t + 2) (x - 100) = D 15 (2 * (24 * h + t) + (x - 100)) := (R.1 _ _ (by unfold ty; omega) (by unfold ty; omega)).trans rt.2
  rw [e2]
  refine ⟨isO_t C.1 ht, by omega, fin _ ?_ (by omega) ne⟩
  unfold bnd
  rw [if_pos z]
  congr 1
  omega
theorem C_stands {m n : Int} {k : Int → Prop} (C : CX E b D h t M0 M1) (R : CR S E b t) (K : KK S D h t M1) (hm : M0 ≤ m ∧ m < M1) (hn : 0 ≤ n ∧ n < M0) (h1 : stan D S b h t m n → k 1) (h0 : ¬ stan D S b h t m n → k 0) : wX0_standsFor S m n k := by
  have hM := C.2.2.2.1
  have ib := isO_b C.1
  unfold wX0_standsFor wX0_standsFor_0
  refine C_isAbove C R ⟨hn.1, by omega⟩ (fun ga => ⟨fun z => absurd z (by decide), fun _ => C_isAlike C R K ⟨by omega, hm.2⟩ ⟨hn.1, by omega⟩ (C.own hm) (Or.inr ga) (fun gs => ⟨fun z => absurd z (by decide), fun _ w ew => ?_⟩) (fun gs => ⟨fun _ => h0 (fun g => gs g.2.1), fun z => absurd rfl z⟩)⟩) (fun ga => ⟨fun _ => h0 (fun g => ga g.1), fun z => absurd rfl z⟩)
  rw [R.2.1] at ew
  refine ⟨by rw [ew]; exact ib, by omega, fun v ev => ?_⟩
  have ev : v = me b m := by rw [ev, ew]; rfl
  unfold wX3_isOwn wX3_isOwn_0
  rw [ev, R.mm (by omega), (C.rm ⟨by omega, hm.2⟩).2.2.1]
  refine ⟨fun om => ⟨fun z => absurd rfl z, fun _ w2 ew2 => ?_⟩, fun om => ⟨fun _ => h0 (fun g => g.2.2.1 om), fun z => absurd z (by decide)⟩⟩
  rw [R.2.1] at ew2
  refine ⟨by rw [ew2]; exact ib, by omega, fun v2 ev2 => ?_⟩
  have ev2 : v2 = me b n := by rw [ev2, ew2]; rfl
  rw [ev2, R.mm (by omega), (C.rm ⟨hn.1, by omega⟩).2.2.1]
  refine ⟨fun on => ⟨fun _ => C_reach C R ⟨hn.1, by omega⟩ (fun gr => ⟨fun _ => h1 ⟨ga, gs, om, on, Or.inl gr⟩, fun z => absurd z (by decide)⟩) (fun gr => ⟨fun z => absurd rfl z, fun _ w3 ew3 => ?_⟩), fun z => absurd rfl z⟩, fun on => ⟨fun z => absurd z (by decide), fun _ => h0 (fun g => g.2.2.2.1 on)⟩⟩
  rw [R.2.1] at ew3
  rw [ew3]
  exact ⟨ib, C_hasO (by omega) (by omega) (fun go => ⟨fun z => absurd z (by decide), fun _ => h1 ⟨ga, gs, om, on, Or.inr go⟩⟩) (fun go => ⟨fun _ => h0 (fun g => g.2.2.2.2.elim gr go), fun z => absurd rfl z⟩)⟩
theorem C_isWrong {m n : Int} {k : Int → Prop} (C : CX E b D h t M0 M1) (R : CR S E b t) (K : KK S D h t M1) (hm : M0 ≤ m ∧ m < M1) (hn : 0 ≤ n ∧ n < M0) (ga : abv D h t n) (h1 : bad D h t m n → k 1) (h0 : ¬ bad D h t m n → k 0) : wX0_isWrong S m n k := by
  have hM := C.2.2.2.1
  have ib := isO_b C.1
  have rm := C.rm (m := m) ⟨by omega, hm.2⟩
  have rn := C.rm (m := n) ⟨hn.1, by omega⟩
  unfold wX0_isWrong wX0_isWrong_0
  intro w ew
  rw [R.2.1] at ew
  refine ⟨by rw [ew]; exact ib, by omega, fun v ev w2 ew2 => ?_⟩
  have ev : v = me b m := by rw [ev, ew]; rfl
  rw [R.2.1] at ew2
  refine ⟨by rw [ew2]; exact ib, by omega, fun v2 ev2 => ?_⟩
  have ev2 : v2 = me b n := by rw [ev2, ew2]; rfl
  unfold wX3_isStatic wX3_isStatic_0
  rw [ev, ev2, R.mm (by omega), R.mm (by omega), R.mm (by omega), R.mm (by omega), rm.2.2.2.1, rn.2.2.2.1, rm.2.2.1, rn.2.2.1]
  have diff : ¬ (D 31 (120 * h + m) = 1 ↔ D 31 (120 * h + n) = 1) → k 1 := fun z => h1 (Or.inl z)
  have same : (D 31 (120 * h + m) = 1 ↔ D 31 (120 * h + n) = 1) → (D 30 (120 * h + m) < D 30 (120 * h + n) → k 1) ∧ (D 30 (120 * h + n) ≤ D 30 (120 * h + m) → wX0_resultSeen S m (fun x_15 => wX0_resultSeen S n (fun x_16 => wX0_isNarrow S x_15 x_16 (fun x_17 => (¬ x_17 = 0 → k 0) ∧ (x_17 = 0 → k 1))))) := by
    intro z
    refine ⟨fun z2 => h1 (Or.inr (Or.inl z2)), fun z2 => C_result C K ⟨by omega, hm.2⟩ (C.own hm) (C_result C K ⟨hn.1, by omega⟩ (Or.inr ga) (C_isNarrow C R ⟨by omega, hm.2⟩ ⟨hn.1, by omega⟩ (C.own hm) (Or.inr ga) (fun g => ⟨fun _ => h0 (fun w => ?_), fun z => absurd z (by decide)⟩) (fun g => ⟨fun z => absurd rfl z, fun _ => h1 (Or.inr (Or.inr g))⟩)))⟩
    rcases w with w | w | w
    · exact w z
    · omega
    · exact w g
  refine ⟨fun z1 => ⟨fun z2 => ⟨fun z => absurd rfl z, fun _ => same ⟨fun w => absurd w z1, fun w => absurd w z2⟩⟩, fun z2 => ⟨fun _ => diff (fun w => z1 (w.mpr z2)), fun z => absurd z (by decide)⟩⟩, fun z1 => ⟨fun z2 => ⟨fun _ => diff (fun w => z2 (w.mp z1)), fun z => absurd z (by decide)⟩, fun z2 => ⟨fun z => absurd rfl z, fun _ => same ⟨fun _ => z2, fun _ => z1⟩⟩⟩⟩
theorem C_hasWrong {k : Int → Prop} (C : CX E b D h t M0 M1) (R : CR S E b t) (K : KK S D h t M1) (h1 : brkC D S b h t M0 M1 → k 1) (h0 : ¬ brkC D S b h t M0 M1 → k 0) : wX0_hasWrongOverride S k := by
  have hM := C.2.2.2.1
  have ht := C.2.2.1
  have ib := isO_b C.1
  have it := isO_t C.1 ht
  have d16 : S (ty b t) 16 = M0 := by rw [R.tt ht]; exact C.2.2.2.2.1.1
  have d3 : S b 3 = M1 := (R.1 _ _ (by omega) (by omega)).trans C.2.2.2.2.1.2
  unfold wX0_hasWrongOverride wX0_hasWrongOverride_0
  intro w ew
  rw [R.2.2] at ew
  refine ⟨by rw [ew]; exact it, fun x ex => ?_⟩
  rw [ew, d16] at ex
  rw [ex]
  unfold wX0_hasWrongOverride_8
  refine wlp_fr1 (lo := M0) (M1 - M0).toNat (fun i => ∀ m n, M0 ≤ m → m < M0 + (i : Int) → 0 ≤ n → n < M0 → ¬ (stan D S b h t m n ∧ bad D h t m n)) ?_ ?_ (fun m n a c => by omega)
  · intro P i hi hI hP
    show wX0_hasWrongOverride_8_b S (M0 + i) (fun b0 => P b0) k
    unfold wX0_hasWrongOverride_8_b
    intro w2 ew2
    rw [R.2.1] at ew2
    rw [ew2, d3]
    refine ⟨ib, fun z => by omega, fun _ => ?_⟩
    unfold wX0_hasWrongOverride_21
    refine wlp_for1 M0.toNat (fun j => ∀ n : Int, 0 ≤ n → n < (j : Int) → ¬ (stan D S b h t (M0 + i) n ∧ bad D h t (M0 + i) n)) ?_ ?_ (fun n a c => by omega)
    · intro P' j hj hI' hP'
      show wX0_hasWrongOverride_21_b S (M0 + i) j (fun b0 => P b0) (fun b0 => P' b0) k
      unfold wX0_hasWrongOverride_21_b
      intro w3 ew3
      rw [R.2.2] at ew3
      rw [ew3, d16]
      have no : ¬ (stan D S b h t (M0 + i) j ∧ bad D h t (M0 + i) j) → ∀ x : Int, x = w32 ((j : Int) + 1) → P' x := by
        intro z x ex
        rw [ex, w32_eq (by omega) (by omega)]
        refine hP' (fun n n0 n1 => ?_)
        by_cases e : n = j
        · rw [e]; exact z
        · exact hI' n n0 (by omega)
      exact ⟨it, fun z => by omega, fun _ => C_stands C R K (by omega) (by omega) (fun g => ⟨fun z => absurd z (by decide), fun _ => C_isWrong C R K (by omega) (by omega) g.1 (fun g2 => ⟨fun z => absurd z (by decide), fun _ => h1 ⟨M0 + i, by omega, by omega, j, by omega, by omega, g, g2⟩⟩) (fun g2 => ⟨fun _ => no (fun w => g2 w.2), fun z => absurd rfl z⟩)⟩) (fun g => ⟨fun _ => no (fun w => g w.1), fun z => absurd rfl z⟩)⟩
    · intro P' hI'
      show wX0_hasWrongOverride_21_b S (M0 + i) (M0.toNat : Int) (fun b0 => P b0) (fun b0 => P' b0) k
      unfold wX0_hasWrongOverride_21_b
      intro w3 ew3
      rw [R.2.2] at ew3
      rw [ew3, d16]
      refine ⟨it, fun _ x ex => ?_, fun z => by omega⟩
      rw [ex, w32_eq (by omega) (by omega)]
      refine hP (fun m n a c d e => ?_)
      by_cases e2 : m = M0 + i
      · rw [e2]; exact hI' n d (by omega)
      · exact hI m n a (by omega) d e
  · intro P hI
    show wX0_hasWrongOverride_8_b S (M0 + ((M1 - M0).toNat : Int)) (fun b0 => P b0) k
    unfold wX0_hasWrongOverride_8_b
    intro w2 ew2
    rw [R.2.1] at ew2
    rw [ew2, d3]
    exact ⟨ib, fun _ => h0 (fun ⟨m, m0, m1, n, n0, n1, g⟩ => hI m n m0 (by omega) n0 n1 g), fun z => by omega⟩
theorem C_isOverridden {n : Int} {k : Int → Prop} (C : CX E b D h t M0 M1) (R : CR S E b t) (hn : 0 ≤ n ∧ n < M0) (h1 : (∃ x, M0 ≤ x ∧ x < M1 ∧ hasO S b x n) → k 1) (h0 : ¬ (∃ x, M0 ≤ x ∧ x < M1 ∧ hasO S b x n) → k 0) : wX0_isOverridden S n k := by
  have hM := C.2.2.2.1
  have ht := C.2.2.1
  have ib := isO_b C.1
  have d16 : S (ty b t) 16 = M0 := by rw [R.tt ht]; exact C.2.2.2.2.1.1
  have d3 : S b 3 = M1 := (R.1 _ _ (by omega) (by omega)).trans C.2.2.2.2.1.2
  unfold wX0_isOverridden wX0_isOverridden_0
  intro w ew
  rw [R.2.2] at ew
  refine ⟨by rw [ew]; exact isO_t C.1 ht, fun x ex => ?_⟩
  rw [ew, d16] at ex
  rw [ex]
  unfold wX0_isOverridden_8
  refine wlp_fr1 (lo := M0) (M1 - M0).toNat (fun i => ∀ m, M0 ≤ m → m < M0 + (i : Int) → ¬ hasO S b m n) ?_ ?_ (fun m a c => by omega)
  · intro P i hi hI hP
    show wX0_isOverridden_8_b S n (M0 + i) (fun b0 => P b0) k
    unfold wX0_isOverridden_8_b
    intro w2 ew2
    rw [R.2.1] at ew2
    rw [ew2, d3]
    refine ⟨ib, fun z => by omega, fun _ w3 ew3 => ?_⟩
    rw [R.2.1] at ew3
    rw [ew3]
    refine ⟨ib, C_hasO (by omega) (by omega) (fun g => ⟨fun z => absurd z (by decide), fun _ => h1 ⟨M0 + i, by omega, by omega, g⟩⟩) (fun g => ⟨fun _ x ex => ?_, fun z => absurd rfl z⟩)⟩
    rw [ex, w32_eq (by omega) (by omega)]
    refine hP (fun m a c => ?_)
    by_cases e : m = M0 + i
    · rw [e]; exact g
    · exact hI m a (by omega)
  · intro P hI
    show wX0_isOverridden_8_b S n (M0 + ((M1 - M0).toNat : Int)) (fun b0 => P b0) k
    unfold wX0_isOverridden_8_b
    intro w2 ew2
    rw [R.2.1] at ew2
    rw [ew2, d3]
    exact ⟨ib, fun _ => h0 (fun ⟨m, m0, m1, g⟩ => hI m m0 (by omega) g), fun z => by omega⟩
theorem C_isQuarrel {n o : Int} {k : Int → Prop} (C : CX E b D h t M0 M1) (R : CR S E b t) (K : KK S D h t M1) (hn : 0 ≤ n ∧ n < M0) (ho : 0 ≤ o ∧ o < M0) (an : abv D h t n) (ao : abv D h t o) (bn : bare D h n) (bo : bare D h o) (h1 : (quar D h t n o ∧ ¬ ∃ x, M0 ≤ x ∧ x < M1 ∧ (hasO S b x n ∨ hasO S b x o)) → k 1) (h0 : ¬ (quar D h t n o ∧ ¬ ∃ x, M0 ≤ x ∧ x < M1 ∧ (hasO S b x n ∨ hasO S b x o)) → k 0) : wX0_isQuarrel S n o k := by
  have hM := C.2.2.2.1
  have ht := C.2.2.1
  have ib := isO_b C.1
  have hn1 : 0 ≤ n ∧ n < M1 := by omega
  have ho1 : 0 ≤ o ∧ o < M1 := by omega
  have dn := C.mm hn1
  have do' := C.mm ho1
  unfold wX0_isQuarrel wX0_isQuarrel_0
  refine C_isAlike C R K hn1 ho1 (Or.inr an) (Or.inr ao) (fun gs => ⟨fun z => absurd z (by decide), fun _ => C_result C K hn1 (Or.inr an) (C_result C K ho1 (Or.inr ao) ⟨fun e => h0 (fun g => g.1.2.2.2.2.2.2.2 e), fun e => C_isOverridden C R hn (fun g1 => ⟨fun _ => h0 (fun g => g.2 (g1.elim (fun x hx => ⟨x, hx.1, hx.2.1, Or.inl hx.2.2⟩))), fun z => absurd z (by decide)⟩) (fun g1 => ⟨fun z => absurd rfl z, fun _ => C_isOverridden C R ho (fun g2 => ⟨fun z => absurd z (by decide), fun _ => h0 (fun g => g.2 (g2.elim (fun x hx => ⟨x, hx.1, hx.2.1, Or.inr hx.2.2⟩)))⟩) (fun g2 => ⟨fun _ w ew => ?_, fun z => absurd rfl z⟩)⟩)⟩)⟩) (fun gs => ⟨fun _ => h0 (fun g => gs g.1.2.2.2.2.2.2.1), fun z => absurd rfl z⟩)
  rw [R.2.1] at ew
  refine ⟨by rw [ew]; exact ib, by omega, fun v ev x ex w2 ew2 => ?_⟩
  have ev : v = me b n := by rw [ev, ew]; rfl
  rw [ev, R.mm (by omega), (C.rm hn1).2.1] at ex
  rw [R.2.1] at ew2
  refine ⟨by rw [ew2]; exact ib, by omega, fun v2 ev2 y ey w3 ew3 => ?_⟩
  have ev2 : v2 = me b o := by rw [ev2, ew2]; rfl
  rw [ev2, R.mm (by omega), (C.rm ho1).2.1] at ey
  rw [R.2.1] at ew3
  rw [ew3, ex, ey]
  refine ⟨ib, C_isUnder R.1 (by omega) (by omega) (fun _ => (C.2.2.2.2.2.2.1 _ dn.1 dn.2).2) (fun u => ⟨fun _ => h0 (fun g => g.1.2.2.1 u), fun z => absurd z (by decide)⟩) (fun u1 => ⟨fun z => absurd rfl z, fun _ w4 ew4 => ?_⟩)⟩
  rw [R.2.1] at ew4
  rw [ew4]
  refine ⟨ib, C_isUnder R.1 (by omega) (by omega) (fun _ => (C.2.2.2.2.2.2.1 _ do'.1 do'.2).2) (fun u => ⟨fun _ => h0 (fun g => g.1.2.2.2.1 u), fun z => absurd z (by decide)⟩) (fun u2 => ⟨fun z => absurd rfl z, fun _ => h1 ⟨⟨an, ao, u1, u2, bn, bo, gs, e⟩, ?_⟩⟩)⟩
  rintro ⟨x, x0, x1, x2 | x2⟩
  · exact g1 ⟨x, x0, x1, x2⟩
  · exact g2 ⟨x, x0, x1, x2⟩
theorem quar_symm {a c : Int} (g : quar D h t a c) : quar D h t c a := ⟨g.2.1, g.1, g.2.2.2.1, g.2.2.1, g.2.2.2.2.2.1, g.2.2.2.2.1, seL_symm g.2.2.2.2.2.2.1, fun e => g.2.2.2.2.2.2.2 e.symm⟩
theorem C_hasQuarrel {k : Int → Prop} (C : CX E b D h t M0 M1) (R : CR S E b t) (K : KK S D h t M1) (l1 : isL S 1036 (frN D h t M0.toNat)) (l2 : S 1034 4 = (frN D h t M0.toNat).length) (h1 : clsC D S b h t M0 M1 → k 1) (h0 : ¬ clsC D S b h t M0 M1 → k 0) : wX0_hasQuarrel S k := by
  have hM := C.2.2.2.1
  have hle := frN_len D h t M0.toNat
  have mem := frN_mem D h t M0.toNat
  have inc := frN_inc D h t M0.toNat
  obtain ⟨L, eL⟩ : ∃ L, L = frN D h t M0.toNat := ⟨_, rfl⟩
  rw [← eL] at l1 l2 hle mem inc
  have mm : ∀ i : Nat, i < L.length → (0 ≤ L.getD i 0 ∧ L.getD i 0 < M0) ∧ abv D h t (L.getD i 0) ∧ bare D h (L.getD i 0) := by
    intro i hi
    have := (mem _).mp (getD_mem hi)
    exact ⟨⟨this.1, by omega⟩, this.2.2⟩
  unfold wX0_hasQuarrel wX0_hasQuarrel_0 wX0_hasQuarrel_2
  refine wlp_for1 L.length (fun i => ∀ a c : Nat, c < a → a < i → ¬ (quar D h t (L.getD a 0) (L.getD c 0) ∧ ¬ ∃ x, M0 ≤ x ∧ x < M1 ∧ (hasO S b x (L.getD a 0) ∨ hasO S b x (L.getD c 0)))) ?_ ?_ (fun a c d e => by omega)
  · intro P i hi hI hP
    show wX0_hasQuarrel_2_b S i (fun b0 => P b0) k
    unfold wX0_hasQuarrel_2_b
    rw [l2]
    refine ⟨fun z => by omega, fun _ => ?_⟩
    unfold wX0_hasQuarrel_12
    refine wlp_for1 i (fun j => ∀ c : Nat, c < j → ¬ (quar D h t (L.getD i 0) (L.getD c 0) ∧ ¬ ∃ x, M0 ≤ x ∧ x < M1 ∧ (hasO S b x (L.getD i 0) ∨ hasO S b x (L.getD c 0)))) ?_ ?_ (fun c e => by omega)
    · intro P' j hj hI' hP'
      show wX0_hasQuarrel_12_b S i j (fun b0 => P b0) (fun b0 => P' b0) k
      unfold wX0_hasQuarrel_12_b
      have mi := mm i hi
      have mj := mm j (by omega)
      rw [l1 i hi, l1 j (by omega)]
      refine ⟨fun z => by omega, fun _ => ⟨by omega, by omega, C_isQuarrel C R K mi.1 mj.1 mi.2.1 mj.2.1 mi.2.2 mj.2.2 (fun g => ⟨fun z => absurd z (by decide), fun _ => h1 ⟨L.getD j 0, mj.1.1, mj.1.2, L.getD i 0, ?_, mi.1.2, quar_symm g.1, fun ⟨x, x0, x1, x2⟩ => g.2 ⟨x, x0, x1, x2.symm⟩⟩⟩) (fun g => ⟨fun _ x ex => ?_, fun z => absurd rfl z⟩)⟩⟩
      · have := inc j i hj hi; omega
      · rw [ex, w32_eq (by omega) (by omega)]
        refine hP' (fun c hc => ?_)
        by_cases e : c = j
        · rw [e]; exact g
        · exact hI' c (by omega)
    · intro P' hI'
      show wX0_hasQuarrel_12_b S i (i : Int) (fun b0 => P b0) (fun b0 => P' b0) k
      unfold wX0_hasQuarrel_12_b
      refine ⟨fun _ x ex => ?_, fun z => by omega⟩
      rw [ex, w32_eq (by omega) (by omega)]
      refine hP (fun a c d e => ?_)
      by_cases e2 : a = i
      · rw [e2] at d ⊢; exact hI' c d
      · exact hI a c d (by omega)
  · intro P hI
    show wX0_hasQuarrel_2_b S (L.length : Int) (fun b0 => P b0) k
    unfold wX0_hasQuarrel_2_b
    rw [l2]
    refine ⟨fun _ => h0 ?_, fun z => by omega⟩
    rintro ⟨a, a0, a1, c, c0, c1, q, nx⟩
    obtain ⟨i, hi, ei⟩ := List.getElem_of_mem ((mem a).mpr ⟨a0, by omega, q.1, q.2.2.2.2.1⟩)
    obtain ⟨j, hj, ej⟩ := List.getElem_of_mem ((mem c).mpr ⟨by omega, by omega, q.2.1, q.2.2.2.2.2.1⟩)
    have ei' : a = L.getD i 0 := by rw [← ei]; simp [hi]
    have ej' : c = L.getD j 0 := by rw [← ej]; simp [hj]
    have lt : i < j := by
      rcases Nat.lt_trichotomy i j with w | w | w
      · exact w
      · rw [w, ← ej'] at ei'; omega
      · have := inc j i w hi; omega
    refine hI j i lt hj ?_
    rw [← ei', ← ej']
    exact ⟨quar_symm q, fun ⟨x, x0, x1, x2⟩ => nx ⟨x, x0, x1, x2.symm⟩⟩
end Wrong
/-- closed rows: what is overridden lies ahead, and is bare -/
def okO (D : St) (h M0 : Int) : Prop := ∀ o n, 0 ≤ o → o < M0 → 0 ≤ n → n < 120 → ovr D h o n → n < o ∧ bare D h n
/-- the rows of class and reference are one -/
theorem over_iff {D D2 S : St} {b h t M0 M1 m : Int} (hM : 0 ≤ M0 ∧ M0 ≤ M1 ∧ M1 ≤ 120) (rw_ : RW D D2 h t M0 m) (oc : OvS D h t M0 m (fun n => hasO S b m n)) : ∀ n, 0 ≤ n → n < M0 → (hasO S b m n ↔ ovr D2 h m n) := fun n n0 n1 => OvS_uniq (f := fun n => hasO S b m n) (g := fun n => ovr D2 h m n) oc rw_.1 (M0 - n).toNat n n0 n1 (by omega)
theorem brk_iff {D D2 S : St} {b h t M0 M1 : Int} (hM : 0 ≤ M0 ∧ M0 ≤ M1 ∧ M1 ≤ 120) (o : off34 D D2) (or_ : ∀ c n, 0 ≤ c → c < M0 → 0 ≤ n → n < 120 → (ovr D2 h c n ↔ ovr D h c n)) (O : okO D h M0) (rw_ : ∀ m, M0 ≤ m → m < M1 → RW D D2 h t M0 m) (oc : ∀ m, M0 ≤ m → m < M1 → OvS D h t M0 m (fun n => hasO S b m n)) : brkC D S b h t M0 M1 ↔ brk D2 h t M0 M1 := by
  have eb : ∀ a c, bad D2 h t a c ↔ bad D h t a c := by
    intro a c
    unfold bad nar bnd kSeen sVar und
    rw [o.eq (a := 31) (by decide), o.eq (a := 30) (by decide), o.eq (a := 33) (by decide), o.eq (a := 28) (by decide), o.eq (a := 23) (by decide), o.eq (a := 15) (by decide), o.eq (a := 22) (by decide)]
  have ea : ∀ c, abv D2 h t c ↔ abv D h t c := by
    intro c
    unfold abv
    rw [o.eq (a := 22) (by decide), o.eq (a := 28) (by decide)]
  have key : ∀ m n, M0 ≤ m → m < M1 → 0 ≤ n → n < M0 → (stan D S b h t m n ↔ abv D2 h t n ∧ akin D2 h t M1 m n) := by
    intro m n m0 m1 n0 n1
    have hov := over_iff (S := S) (b := b) hM (rw_ m m0 m1) (oc m m0 m1)
    obtain ⟨r1, r2, r3⟩ := rw_ m m0 m1
    unfold stan akin
    rw [ea, off34_seL o, off34_rch o, o.eq (a := 30) (by decide)]
    constructor
    · rintro ⟨g1, g2, g3, g4, g5⟩
      refine ⟨g1, g2, g3, g4, ?_⟩
      rcases g5 with g5 | g5
      · exact Or.inl g5
      · have h2 := (r1 n n0 n1).mp ((hov n n0 n1).mp g5)
        rcases h2.2.2.2.2 with w | ⟨x, x0, x1, x2, x3⟩
        · exact Or.inl w
        · exact Or.inr ⟨x, by omega, by omega, by omega, x2, (or_ x n (by omega) x1 n0 (by omega)).mpr x3⟩
    · rintro ⟨g1, g2, g3, g4, g5⟩
      refine ⟨g1, g2, g3, g4, ?_⟩
      rcases g5 with g5 | ⟨x, x0, x1, x2, x3, x4⟩
      · exact Or.inl g5
      · have xM : x < M0 := by
          by_cases c : x < M0
          · exact c
          · exact absurd x3 (r2 x (by omega) (by omega))
        have x4' := (or_ x n x0 xM n0 (by omega)).mp x4
        have ok := O x n x0 xM n0 (by omega) x4'
        have bm := ((r1 x x0 xM).mp x3).2.1
        refine Or.inr ((hov n n0 n1).mpr ((r1 n n0 n1).mpr ⟨g1, bm, ok.2, g2, Or.inr ⟨x, ok.1, xM, x3, x4'⟩⟩))
  unfold brkC brk
  constructor
  · rintro ⟨m, m0, m1, n, n0, n1, g1, g2⟩
    exact ⟨m, m0, m1, n, n0, n1, (key m n m0 m1 n0 n1).mp g1, (eb m n).mpr g2⟩
  · rintro ⟨m, m0, m1, n, n0, n1, g1, g2⟩
    exact ⟨m, m0, m1, n, n0, n1, (key m n m0 m1 n0 n1).mpr g1, (eb m n).mp g2⟩
theorem cls_iff {D D2 S : St} {b h t M0 M1 : Int} (hM : 0 ≤ M0 ∧ M0 ≤ M1 ∧ M1 ≤ 120) (o : off34 D D2) (rw_ : ∀ m, M0 ≤ m → m < M1 → RW D D2 h t M0 m) (oc : ∀ m, M0 ≤ m → m < M1 → OvS D h t M0 m (fun n => hasO S b m n)) : clsC D S b h t M0 M1 ↔ clsh D2 h t M0 M1 := by
  have eq : ∀ a c, quar D2 h t a c ↔ quar D h t a c := by
    intro a c
    unfold quar abv bare und
    rw [off34_seL o, o.eq (a := 31) (by decide), o.eq (a := 30) (by decide), o.eq (a := 28) (by decide), o.eq (a := 22) (by decide)]
    unfold kSeen sVar
    rw [o.eq (a := 33) (by decide), o.eq (a := 28) (by decide), o.eq (a := 23) (by decide)]
  have ex : ∀ a c, 0 ≤ a → a < M0 → 0 ≤ c → c < M0 → ((∃ x, M0 ≤ x ∧ x < M1 ∧ (hasO S b x a ∨ hasO S b x c)) ↔ ∃ x, M0 ≤ x ∧ x < M1 ∧ (ovr D2 h x a ∨ ovr D2 h x c)) := by
    intro a c a0 a1 c0 c1
    constructor
    · rintro ⟨x, x0, x1, x2⟩
      have hov := over_iff (S := S) (b := b) hM (rw_ x x0 x1) (oc x x0 x1)
      exact ⟨x, x0, x1, x2.elim (fun w => Or.inl ((hov a a0 a1).mp w)) (fun w => Or.inr ((hov c c0 c1).mp w))⟩
    · rintro ⟨x, x0, x1, x2⟩
      have hov := over_iff (S := S) (b := b) hM (rw_ x x0 x1) (oc x x0 x1)
      exact ⟨x, x0, x1, x2.elim (fun w => Or.inl ((hov a a0 a1).mpr w)) (fun w => Or.inr ((hov c c0 c1).mpr w))⟩
  unfold clsC clsh
  constructor
  · rintro ⟨a, a0, a1, c, c0, c1, q, nx⟩
    exact ⟨a, a0, a1, c, c0, c1, (eq a c).mpr q, fun w => nx ((ex a c a0 a1 (by omega) c1).mpr w)⟩
  · rintro ⟨a, a0, a1, c, c0, c1, q, nx⟩
    exact ⟨a, a0, a1, c, c0, c1, (eq a c).mp q, fun w => nx ((ex a c a0 a1 (by omega) c1).mp w)⟩
