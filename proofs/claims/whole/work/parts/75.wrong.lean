/-! pure: close: FAULTS 7, 9, 10: both -/
/-- a row of flags: some of lo .. holds -/
theorem wlp_any {B : (Int × Int → Prop) → Int × Int → Prop} {lo : Int} (n : Nat) (p : Int → Prop) (K : Int → Prop) (hs : ∀ (P : Int × Int → Prop) (i : Nat) (fl : Int), i < n → (fl = 0 ∨ fl = 1) → (¬ fl = 0 → P (1, lo + i + 1)) → (fl = 0 → p (lo + i) → P (1, lo + i + 1)) → (fl = 0 → ¬ p (lo + i) → P (0, lo + i + 1)) → B P (fl, lo + i)) (he : ∀ (P : Int × Int → Prop) (fl : Int), (fl = 0 ∨ fl = 1) → K fl → B P (fl, lo + n)) (f0 : Int) (hf : f0 = 0 ∨ f0 = 1) (h1 : (f0 = 1 ∨ ∃ x, lo ≤ x ∧ x < lo + n ∧ p x) → K 1) (h0 : ¬ (f0 = 1 ∨ ∃ x, lo ≤ x ∧ x < lo + n ∧ p x) → K 0) : wlp B (f0, lo) := by
  refine wlp_fs (lo := lo) n (fun i fl => (fl = 1 ∧ (f0 = 1 ∨ ∃ x, lo ≤ x ∧ x < lo + n ∧ p x)) ∨ (fl = 0 ∧ ¬ f0 = 1 ∧ ∀ x, lo ≤ x → x < lo + i → ¬ p x)) ?_ ?_ ?_
  · intro P i fl hi hI hP
    have f01 : fl = 0 ∨ fl = 1 := by
      rcases hI with w | w
      · exact Or.inr w.1
      · exact Or.inl w.1
    refine hs P i fl hi f01 (fun z => ?_) (fun z g => ?_) (fun z g => ?_)
    · rcases hI with w | w
      · exact hP 1 (Or.inl ⟨rfl, w.2⟩)
      · exact absurd w.1 z
    · exact hP 1 (Or.inl ⟨rfl, Or.inr ⟨lo + i, by omega, by omega, g⟩⟩)
    · rcases hI with w | w
      · exact absurd (w.1.symm.trans z) (by decide)
      · refine hP 0 (Or.inr ⟨rfl, w.2.1, fun x x0 x1 => ?_⟩)
        by_cases e : x = lo + i
        · rw [e]; exact g
        · exact w.2.2 x x0 (by omega)
  · intro P fl hI
    rcases hI with w | w
    · exact he P fl (Or.inr w.1) (by rw [w.1]; exact h1 w.2)
    · refine he P fl (Or.inl w.1) ?_
      rw [w.1]
      refine h0 ?_
      rintro (z | ⟨x, x0, x1, x2⟩)
      · exact w.2.1 z
      · exact w.2.2 x x0 x1 x2
  · rcases hf with w | w
    · exact Or.inr ⟨w, by omega, fun x x0 x1 => by omega⟩
    · exact Or.inl ⟨w, Or.inl w⟩
theorem erL_symm {D : St} {h a b : Int} (g : erL D h a b) : erL D h b a := ⟨g.1.symm, g.2.1.symm, fun q q0 q1 => (g.2.2 q q0 (by rw [g.2.1]; exact q1)).symm⟩
theorem seL_symm {D : St} {h t a b : Int} (g : seL D h t a b) : seL D h t b a := ⟨g.1.symm, g.2.1.symm, fun q q0 q1 => (g.2.2 q q0 (by rw [g.2.1]; exact q1)).symm⟩
def twin (D : St) (h M0 M1 : Int) : Prop := ∃ a, M0 ≤ a ∧ a < M1 ∧ ∃ b, a + 1 ≤ b ∧ b < M1 ∧ erL D h a b
theorem R_isTwice {S D : St} {h t M0 M1 : Int} {k : Int → Prop} (A : AgD S D) (hS : S 0 10 = h) (hh : half01 h) (ht : 0 ≤ t ∧ t < 24) (hM : 0 ≤ M0 ∧ M0 ≤ M1 ∧ M1 ≤ 120) (hF : D 24 (24 * h + t) = M0 ∧ D 24 (24 * h + t) + D 25 (24 * h + t) = M1) (hK : ∀ m, 0 ≤ m → m < M1 → okM D h m) (h1 : twin D h M0 M1 → k 1) (h0 : ¬ twin D h M0 M1 → k 0) : wX8_isTwice S t k := by
  have hb01 : 0 ≤ h ∧ h ≤ 1 := by unfold half01 at hh; omega
  unfold wX8_isTwice wX8_isTwice_0
  refine R_t hS hh ht ?_
  rw [A 24 _ (by decide) (by decide), hF.1]
  refine ⟨by omega, fun x ex => R_t hS hh ht ?_⟩
  rw [A 25 _ (by decide) (by decide)]
  refine ⟨by omega, fun y ey => ?_⟩
  have ey : y = M1 := by rw [ey, ex, w32_eq (by omega) (by omega)]; omega
  rw [ex, ey]
  unfold wX8_isTwice_30
  refine wlp_any (lo := M0) (M1 - M0).toNat (fun a => ∃ b, a + 1 ≤ b ∧ b < M1 ∧ erL D h a b) k ?_ ?_ 0 (Or.inl rfl) (fun z => h1 ?_) (fun z => h0 (fun w => z (Or.inr ?_)))
  · intro P i fl hi f01 p1 p2 p3
    show wX8_isTwice_30_b S M1 fl (M0 + i) (fun b0 b1 => P (b0, b1)) k
    unfold wX8_isTwice_30_b
    refine ⟨fun z => by clear p1 p2 p3; omega, fun _ x ex => ?_⟩
    rw [w32_eq (by omega) (by omega)] at ex
    rw [ex]
    have lp1 : ¬ fl = 0 → ∀ z : Int, z = w32 (M0 + i + 1) → P (1, z) := fun f z ez => by
      rw [ez, w32_eq (by omega) (by omega)]; exact p1 f
    unfold wX8_isTwice_42
    refine wlp_any (lo := M0 + i + 1) (M1 - (M0 + i + 1)).toNat (fun b => erL D h (M0 + i) b) (fun fl' => ∀ x_2 : Int, x_2 = w32 (M0 + i + 1) → P (fl', x_2)) ?_ ?_ fl f01 (fun z x ex => ?_) (fun z x ex => ?_)
    · intro P' j fl' hj f01' q1 q2 q3
      show wX8_isTwice_42_b S M1 fl' (M0 + i) (M0 + i + 1 + j) (fun b0 b1 => P (b0, b1)) (fun b0 b1 => P' (b0, b1)) k
      unfold wX8_isTwice_42_b wX8_isTwice_64
      have w1 : w32 (M0 + i + 1 + j + 1) = M0 + i + 1 + j + 1 := w32_eq (by omega) (by omega)
      rw [w1]
      exact ⟨fun z => by omega, fun _ => ⟨fun z x ex => by rw [ex]; exact q1 z, fun z => R_isErasedLike A hS hh (hK _ (by omega) (by omega)) (hK _ (by omega) (by omega)) (fun g => ⟨fun z => absurd z (by decide), fun _ x ex => by rw [ex]; exact q2 z g⟩) (fun g => ⟨fun _ x ex => by rw [ex]; exact q3 z g, fun z => absurd rfl z⟩)⟩⟩
    · intro P' fl' f01' hk
      show wX8_isTwice_42_b S M1 fl' (M0 + i) (M0 + i + 1 + ((M1 - (M0 + i + 1)).toNat : Int)) (fun b0 b1 => P (b0, b1)) (fun b0 b1 => P' (b0, b1)) k
      unfold wX8_isTwice_42_b
      exact ⟨fun _ => hk, fun z => by omega⟩
    · rcases z with z | ⟨b, b0, b1, b2⟩
      · exact lp1 (by omega) x ex
      · rw [ex, w32_eq (by omega) (by omega)]
        by_cases f : fl = 0
        · exact p2 f ⟨b, b0, by omega, b2⟩
        · exact p1 f
    · rw [ex, w32_eq (by omega) (by omega)]
      refine p3 (f01.elim id (fun e => absurd (Or.inl e) z)) (fun ⟨b, b0, b1, b2⟩ => z (Or.inr ⟨b, b0, by omega, b2⟩))
  · intro P fl f01 hk
    show wX8_isTwice_30_b S M1 fl (M0 + ((M1 - M0).toNat : Int)) (fun b0 b1 => P (b0, b1)) k
    unfold wX8_isTwice_30_b
    exact ⟨fun _ => ⟨f01, hk⟩, fun z => by omega⟩
  · rcases z with z | ⟨a, a0, a1, a2⟩
    · exact absurd z (by decide)
    · exact ⟨a, a0, by omega, a2⟩
  · obtain ⟨a, a0, a1, a2⟩ := w
    exact ⟨a, a0, by omega, a2⟩
/-- ERASED kinds are kinds -/
def KE (D : St) (h M : Int) : Prop := ∀ m q, 0 ≤ m → m < M → 0 ≤ q → q ≤ 2 → (q < 2 → q < D 32 (120 * h + m)) → -3 ≤ kEr D h m q
theorem era_iff {D : St} {h M m n : Int} (K : KE D h M) (cm : 0 ≤ D 32 (120 * h + m) ∧ D 32 (120 * h + m) ≤ 2) (cn : 0 ≤ D 32 (120 * h + n) ∧ D 32 (120 * h + n) ≤ 2) (hm : 0 ≤ m ∧ m < M) (hn : 0 ≤ n ∧ n < M) : (D 29 (120 * h + m) = D 29 (120 * h + n) ∧ kOr D h m 0 (kEr D h m 0) = kOr D h n 0 (kEr D h n 0) ∧ kOr D h m 1 (kEr D h m 1) = kOr D h n 1 (kEr D h n 1)) ↔ erL D h m n := by
  have km := K m
  have kn := K n
  unfold erL kOr
  constructor
  · rintro ⟨h1, h2, h3⟩
    have m0 : 0 < D 32 (120 * h + m) → -3 ≤ kEr D h m 0 := fun z => km 0 hm.1 hm.2 (by decide) (by decide) (fun _ => z)
    have m1 : 1 < D 32 (120 * h + m) → -3 ≤ kEr D h m 1 := fun z => km 1 hm.1 hm.2 (by decide) (by decide) (fun _ => z)
    have n0 : 0 < D 32 (120 * h + n) → -3 ≤ kEr D h n 0 := fun z => kn 0 hn.1 hn.2 (by decide) (by decide) (fun _ => z)
    have n1 : 1 < D 32 (120 * h + n) → -3 ≤ kEr D h n 1 := fun z => kn 1 hn.1 hn.2 (by decide) (by decide) (fun _ => z)
    have e32 : D 32 (120 * h + m) = D 32 (120 * h + n) := by
      split at h2 <;> split at h2 <;> split at h3 <;> split at h3 <;> omega
    refine ⟨h1, e32, fun q q0 q1 => ?_⟩
    have q01 : q = 0 ∨ q = 1 := by omega
    rcases q01 with rfl | rfl
    · rw [if_neg (by omega), if_neg (by omega)] at h2; exact h2
    · rw [if_neg (by omega), if_neg (by omega)] at h3; exact h3
  · rintro ⟨h1, h2, h3⟩
    refine ⟨h1, ?_, ?_⟩
    · by_cases c : 0 < D 32 (120 * h + m)
      · rw [if_neg (by omega), if_neg (by omega)]; exact h3 0 (by decide) c
      · rw [if_pos (by omega), if_pos (by omega)]
    · by_cases c : 1 < D 32 (120 * h + m)
      · rw [if_neg (by omega), if_neg (by omega)]; exact h3 1 (by decide) c
      · rw [if_pos (by omega), if_pos (by omega)]
theorem C_hasTwins {S E D : St} {b h t M0 M1 : Int} {k : Int → Prop} (hb : b = 2 ∨ b = 515) (ht : 0 ≤ t ∧ t < 24) (R : CR S E b t) (hM : 0 ≤ M0 ∧ M0 ≤ M1 ∧ M1 ≤ 120) (e16 : E (ty b t) 16 = M0) (e3 : E b 3 = M1) (rm : rMs E b D h M1) (hK : ∀ m, 0 ≤ m → m < M1 → okM D h m) (KEr : KE D h M1) (h1 : twin D h M0 M1 → k 1) (h0 : ¬ twin D h M0 M1 → k 0) : wX0_hasTwins S k := by
  have ib := isO_b hb
  have it := isO_t hb ht
  unfold wX0_hasTwins wX0_hasTwins_0
  intro w ew
  rw [R.2.2] at ew
  refine ⟨by rw [ew]; exact it, fun x ex => ?_⟩
  rw [ew, R.tt ht, e16] at ex
  rw [ex]
  unfold wX0_hasTwins_8
  refine wlp_fr1 (lo := M0) (M1 - M0).toNat (fun i => ∀ m n, M0 ≤ n → n < m → m < M0 + (i : Int) → ¬ erL D h m n) ?_ ?_ (fun m n a c d => by omega)
  · intro P i hi hI hP
    show wX0_hasTwins_8_b S (M0 + i) (fun b0 => P b0) k
    unfold wX0_hasTwins_8_b
    intro w2 ew2
    rw [R.2.1] at ew2
    have f3 : S w2 3 = M1 := by rw [ew2]; exact (R.1 _ _ (by omega) (by omega)).trans e3
    rw [f3]
    refine ⟨by rw [ew2]; exact ib, fun z => by omega, fun _ w3 ew3 => ?_⟩
    rw [R.2.2] at ew3
    refine ⟨by rw [ew3]; exact it, fun y ey => ?_⟩
    rw [ew3, R.tt ht, e16] at ey
    rw [ey]
    unfold wX0_hasTwins_27
    refine wlp_fr1 (lo := M0) i (fun j => ∀ n, M0 ≤ n → n < M0 + (j : Int) → ¬ erL D h (M0 + i) n) ?_ ?_ (fun n a c => by omega)
    · intro P' j hj hI' hP'
      show wX0_hasTwins_27_b S (M0 + i) (M0 + j) (fun b0 => P b0) (fun b0 => P' b0) k
      unfold wX0_hasTwins_27_b
      refine ⟨fun z => by omega, fun _ w4 ew4 => ?_⟩
      rw [R.2.1] at ew4
      refine ⟨by rw [ew4]; exact ib, by omega, fun v ev w5 ew5 => ?_⟩
      have ev : v = me b (M0 + i) := by rw [ev, ew4]; rfl
      rw [R.2.1] at ew5
      refine ⟨by rw [ew5]; exact ib, by omega, fun v2 ev2 => ?_⟩
      have ev2 : v2 = me b (M0 + j) := by rw [ev2, ew5]; rfl
      have r1 := rm (M0 + i) (by omega) (by omega)
      have r2 := rm (M0 + j) (by omega) (by omega)
      have ei := era_iff KEr (hK (M0 + i) (by omega) (by omega)).2.2.1 (hK (M0 + j) (by omega) (by omega)).2.2.1 ⟨by omega, by omega⟩ ⟨by omega, by omega⟩
      have c2 : ∀ m q, 0 ≤ m → m < 121 → S (me b m + 2) q = E (me b m + 2) q := fun m q a c => R.1 _ _ (by unfold me; omega) (by unfold me; omega)
      unfold wX3_hasErasedKindsOf wX3_hasErasedKindsOf_0
      rw [ev, ev2, R.mm (by omega), R.mm (by omega), c2 _ _ (by omega) (by omega), c2 _ _ (by omega) (by omega), c2 _ _ (by omega) (by omega), c2 _ _ (by omega) (by omega), r1.1, r2.1, (r1.2.2.2.2.2 0 (by decide) (by decide)).2, (r2.2.2.2.2.2 0 (by decide) (by decide)).2, (r1.2.2.2.2.2 1 (by decide) (by decide)).2, (r2.2.2.2.2.2 1 (by decide) (by decide)).2]
      have no : ¬ erL D h (M0 + i) (M0 + j) → ((0 : Int) = 0 → ∀ x_11 : Int, x_11 = w32 (M0 + j + 1) → P' x_11) ∧ (¬ (0 : Int) = 0 → k 1) := by
        intro z
        refine ⟨fun _ x ex => ?_, fun z => absurd rfl z⟩
        rw [ex, w32_eq (by omega) (by omega)]
        refine hP' (fun n n0 n1 => ?_)
        by_cases e : n = M0 + j
        · rw [e]; exact z
        · exact hI' n n0 (by omega)
      exact ⟨fun z => no (fun g => z (ei.mpr g).1), fun z1 => ⟨fun z => no (fun g => z (ei.mpr g).2.1), fun z2 => ⟨fun z => no (fun g => z (ei.mpr g).2.2), fun z3 => ⟨fun z => absurd z (by decide), fun _ => h1 ⟨M0 + j, by omega, by omega, M0 + i, by omega, by omega, erL_symm (ei.mp ⟨z1, z2, z3⟩)⟩⟩⟩⟩⟩
    · intro P' hI'
      show wX0_hasTwins_27_b S (M0 + i) (M0 + (i : Int)) (fun b0 => P b0) (fun b0 => P' b0) k
      unfold wX0_hasTwins_27_b
      refine ⟨fun _ x ex => ?_, fun z => by omega⟩
      rw [ex, w32_eq (by omega) (by omega)]
      refine hP (fun m n a c d => ?_)
      by_cases e : m = M0 + i
      · rw [e] at c ⊢; exact hI' n a c
      · exact hI m n a c (by omega)
  · intro P hI
    show wX0_hasTwins_8_b S (M0 + ((M1 - M0).toNat : Int)) (fun b0 => P b0) k
    unfold wX0_hasTwins_8_b
    intro w2 ew2
    rw [R.2.1] at ew2
    have f3 : S w2 3 = M1 := by rw [ew2]; exact (R.1 _ _ (by omega) (by omega)).trans e3
    rw [f3]
    exact ⟨by rw [ew2]; exact ib, fun _ => h0 (fun ⟨a, a0, a1, c, c0, c1, g⟩ => hI c a a0 (by omega) (by omega) (erL_symm g)), fun z => by omega⟩
/-- a result NARROW enough -/
def nar (D : St) (h t x y : Int) : Prop := x = y ∨ ((0 ≤ y ∧ y < 24) ∧ (0 ≤ bnd D h t x ∧ bnd D h t x < 24) ∧ und D h (bnd D h t x) y)
def bad (D : St) (h t a b : Int) : Prop := ¬ (D 31 (120 * h + a) = 1 ↔ D 31 (120 * h + b) = 1) ∨ D 30 (120 * h + a) < D 30 (120 * h + b) ∨ ¬ nar D h t (kSeen D h t a 2) (kSeen D h t b 2)
theorem R_isNarrow {S D : St} {h t a b : Int} {k : Int → Prop} (A : AgD S D) (hS : S 0 10 = h) (hh : half01 h) (ht : 0 ≤ t ∧ t < 24) (ha : okM D h a) (hb : okM D h b) (xa : kSeen D h t a 2 ≤ 101) (h1 : nar D h t (kSeen D h t a 2) (kSeen D h t b 2) → k 1) (h0 : ¬ nar D h t (kSeen D h t a 2) (kSeen D h t b 2) → k 0) : wX8_isNarrow S t a b k := by
  unfold wX8_isNarrow wX8_isNarrow_0
  refine R_kindSeen A hS hh ht ha.1 (by decide) (ha.2.2.2 2 (by decide) (by decide)) ha.2.1 (R_kindSeen A hS hh ht hb.1 (by decide) (hb.2.2.2 2 (by decide) (by decide)) hb.2.1 ?_)
  refine ⟨fun z => R_boundOf A hS hh ht xa (R_in _ ?_), fun z => h1 (Or.inl z)⟩
  by_cases c : 0 ≤ kSeen D h t b 2 ∧ kSeen D h t b 2 ≤ 23
  · rw [if_pos c]
    refine ⟨fun z => absurd z (by decide), fun _ => R_in _ ?_⟩
    by_cases d : 0 ≤ bnd D h t (kSeen D h t a 2) ∧ bnd D h t (kSeen D h t a 2) ≤ 23
    · rw [if_pos d]
      refine ⟨fun z => absurd z (by decide), fun _ => R_und A hS hh (by omega) (by omega) (fun u => ⟨fun z => absurd z (by decide), fun _ => h1 (Or.inr ⟨by omega, by omega, u⟩)⟩) (fun u => ⟨fun _ => h0 (fun g => ?_), fun z => absurd rfl z⟩)⟩
      rcases g with g | g
      · exact z g
      · exact u g.2.2
    · rw [if_neg d]
      refine ⟨fun _ => h0 (fun g => ?_), fun z => absurd rfl z⟩
      rcases g with g | g
      · exact z g
      · omega
  · rw [if_neg c]
    refine ⟨fun _ => h0 (fun g => ?_), fun z => absurd rfl z⟩
    rcases g with g | g
    · exact z g
    · omega
def brk (D : St) (h t M0 M1 : Int) : Prop := ∃ a, M0 ≤ a ∧ a < M1 ∧ ∃ b, 0 ≤ b ∧ b < M0 ∧ (abv D h t b ∧ akin D h t M1 a b) ∧ bad D h t a b
theorem R_breaksAbove {S D : St} {h t M0 M1 : Int} {k : Int → Prop} (A : AgD S D) (hS : S 0 10 = h) (X : RX D h t M0 M1) (z1 : ∀ a o, M0 ≤ a → a < M1 → 0 ≤ o → o < 120 → D 34 (120 * (120 * h + a) + o) = 0 ∨ D 34 (120 * (120 * h + a) + o) = 1) (xs : ∀ a, M0 ≤ a → a < M1 → kSeen D h t a 2 ≤ 101) (h1 : brk D h t M0 M1 → k 1) (h0 : ¬ brk D h t M0 M1 → k 0) : wX8_breaksAbove S t k := by
  obtain ⟨hh, ht, hM, hF, hK, h34⟩ := X
  have hb01 : 0 ≤ h ∧ h ≤ 1 := by unfold half01 at hh; omega
  have all01 : ∀ o n, 0 ≤ o → o < M1 → 0 ≤ n → n < 120 → D 34 (120 * (120 * h + o) + n) = 0 ∨ D 34 (120 * (120 * h + o) + n) = 1 := by
    intro o n o0 o1 n0 n1
    by_cases c : o < M0
    · exact h34 o n o0 c n0 n1
    · exact z1 o n (by omega) o1 n0 n1
  unfold wX8_breaksAbove wX8_breaksAbove_0
  refine R_t hS hh ht ?_
  rw [A 24 _ (by decide) (by decide), hF.1]
  refine ⟨by omega, fun x ex => ?_⟩
  rw [ex]
  have e25 : w32 (M0 + S 25 (24 * h + t)) = M1 := by rw [A 25 _ (by decide) (by decide), w32_eq (by omega) (by omega)]; omega
  unfold wX8_breaksAbove_16
  refine wlp_any (lo := M0) (M1 - M0).toNat (fun a => ∃ b, 0 ≤ b ∧ b < M0 ∧ (abv D h t b ∧ akin D h t M1 a b) ∧ bad D h t a b) k ?_ ?_ 0 (Or.inl rfl) (fun z => h1 ?_) (fun z => h0 (fun w => z (Or.inr ?_)))
  · intro P i fl hi f01 p1 p2 p3
    obtain ⟨a, ea⟩ : ∃ a, a = M0 + (i : Int) := ⟨_, rfl⟩
    have ha : M0 ≤ a ∧ a < M1 := by omega
    have oka := hK a (by omega) ha.2
    rw [← ea] at p1 p2 p3 ⊢
    show wX8_breaksAbove_16_b S t M0 fl a (fun b0 b1 => P (b0, b1)) k
    unfold wX8_breaksAbove_16_b
    refine R_t hS hh ht ?_
    rw [e25]
    refine ⟨by omega, fun z => by omega, fun _ => ?_⟩
    unfold wX8_breaksAbove_36
    refine wlp_any (lo := 0) M0.toNat (fun b => (abv D h t b ∧ akin D h t M1 a b) ∧ bad D h t a b) (fun fl' => ∀ x_2 : Int, x_2 = w32 (a + 1) → P (fl', x_2)) ?_ ?_ fl f01 (fun z x ex => ?_) (fun z x ex => ?_)
    · intro P' j fl' hj f01' q1 q2 q3
      obtain ⟨n, en⟩ : ∃ n, n = (0 : Int) + (j : Int) := ⟨_, rfl⟩
      have hn : 0 ≤ n ∧ n < M0 := by omega
      have okn := hK n hn.1 (by omega)
      have o28 := okn.2.1
      rw [← en] at q1 q2 q3 ⊢
      have w1 : w32 (n + 1) = n + 1 := w32_eq (by omega) (by omega)
      have no : ¬ ((abv D h t n ∧ akin D h t M1 a n) ∧ bad D h t a n) → ∀ x : Int, x = w32 (n + 1) → P' (fl', x) := by
        intro z x ex
        rw [ex, w1]
        by_cases f : fl' = 0
        · rw [f]; exact q3 f z
        · have : fl' = 1 := by omega
          rw [this]; exact q1 f
      have yes : ((abv D h t n ∧ akin D h t M1 a n) ∧ bad D h t a n) ∨ ¬ fl' = 0 → ∀ x : Int, x = w32 (n + 1) → P' (1, x) := by
        intro z x ex
        rw [ex, w1]
        by_cases f : fl' = 0
        · rcases z with z | z
          · exact q2 f z
          · exact absurd f z
        · exact q1 f
      show wX8_breaksAbove_36_b S t M0 fl' a n (fun b0 b1 => P (b0, b1)) (fun b0 b1 => P' (b0, b1)) k
      unfold wX8_breaksAbove_36_b
      refine ⟨fun z => by omega, fun _ => R_t hS hh ht (R_m hS hh (by omega) ?_)⟩
      rw [A 28 _ (by decide) (by decide), w32_eq (x := 24 * (24 * h + t)) (by omega) (by omega), w32_eq (by omega) (by omega), A 22 _ (by decide) (by decide)]
      refine ⟨by omega, by omega, fun z => no (fun w => w.1.1 z), fun zab => R_isAkin (M1 := M1) A hS hh ht ⟨hF.2.2, by omega, by omega⟩ oka okn (fun o o0 o1 => all01 a o (by omega) (by omega) o0 (by omega)) (fun o o0 o1 _ => all01 o n o0 o1 (by omega) (by omega)) (fun g => ⟨fun z => absurd z (by decide), fun _ => R_m hS hh (by omega) ?_⟩) (fun g => ⟨fun _ => no (fun w => g w.1.2), fun z => absurd rfl z⟩)⟩
      rw [A 31 _ (by decide) (by decide)]
      have stt : ∀ s0 s1 : Int, ((s0 = 1 ∧ D 31 (120 * h + a) = 1) ∨ (s0 = 0 ∧ ¬ D 31 (120 * h + a) = 1)) → ((s1 = 1 ∧ D 31 (120 * h + n) = 1) ∨ (s1 = 0 ∧ ¬ D 31 (120 * h + n) = 1)) → wX8_breaksAbove_122 S t M0 fl' a n s0 s1 (fun b0 b1 => P (b0, b1)) (fun b0 b1 => P' (b0, b1)) k := by
        intro s0 s1 hs0 hs1
        have iff1 : s0 = s1 ↔ (D 31 (120 * h + a) = 1 ↔ D 31 (120 * h + n) = 1) := by
          rcases hs0 with u | u
          · rcases hs1 with v | v
            · exact ⟨fun _ => ⟨fun _ => v.2, fun _ => u.2⟩, fun _ => by omega⟩
            · exact ⟨fun z => by omega, fun z => absurd (z.mp u.2) v.2⟩
          · rcases hs1 with v | v
            · exact ⟨fun z => by omega, fun z => absurd (z.mpr v.2) u.2⟩
            · exact ⟨fun _ => ⟨fun z => absurd z u.2, fun z => absurd z v.2⟩, fun _ => by omega⟩
        have fin : ∀ s : Int, ((s = 1 ∧ ¬ s0 = s1) ∨ (s = 0 ∧ s0 = s1)) → wX8_breaksAbove_130 S t M0 fl' a n s (fun b0 b1 => P (b0, b1)) (fun b0 b1 => P' (b0, b1)) k := by
          intro s hs
          unfold wX8_breaksAbove_130 wX8_breaksAbove_178
          refine ⟨fun z => yes (Or.inr z), fun z => ⟨fun zs => yes (Or.inl ⟨⟨zab, g⟩, Or.inl ?_⟩), fun zs => R_m hS hh (by omega) ⟨by omega, R_m hS hh (by omega) ⟨by omega, ?_⟩⟩⟩⟩
          · rcases hs with u | u
            · exact fun w => u.2 (iff1.mpr w)
            · exact absurd u.1 zs
          · have same : s0 = s1 := by
              rcases hs with u | u
              · omega
              · exact u.2
            rw [A 30 _ (by decide) (by decide), A 30 _ (by decide) (by decide)]
            refine ⟨fun z2 => yes (Or.inl ⟨⟨zab, g⟩, Or.inr (Or.inl z2)⟩), fun z2 => R_isNarrow A hS hh ht oka okn (xs a ha.1 ha.2) (fun g2 => ⟨fun _ x ex => ?_, fun z => absurd z (by decide)⟩) (fun g2 => ⟨fun z => absurd rfl z, fun _ => yes (Or.inl ⟨⟨zab, g⟩, Or.inr (Or.inr g2)⟩)⟩)⟩
            have := no (fun w => ?_) x ex
            · rw [z] at this; exact this
            · rcases w.2 with u | u | u
              · exact u (iff1.mp same)
              · omega
              · exact u g2
        unfold wX8_breaksAbove_122
        exact ⟨fun z => fin 0 (Or.inr ⟨rfl, z⟩), fun z => fin 1 (Or.inl ⟨rfl, z⟩)⟩
      have go : ∀ s0 : Int, ((s0 = 1 ∧ D 31 (120 * h + a) = 1) ∨ (s0 = 0 ∧ ¬ D 31 (120 * h + a) = 1)) → wX8_breaksAbove_102 S t M0 fl' a n s0 (fun b0 b1 => P (b0, b1)) (fun b0 b1 => P' (b0, b1)) k := by
        intro s0 hs0
        unfold wX8_breaksAbove_102
        refine R_m hS hh (by omega) ?_
        rw [A 31 _ (by decide) (by decide)]
        exact ⟨by omega, fun z => stt s0 0 hs0 (Or.inr ⟨rfl, z⟩), fun z => stt s0 1 hs0 (Or.inl ⟨rfl, z⟩)⟩
      exact ⟨by omega, fun z => go 0 (Or.inr ⟨rfl, z⟩), fun z => go 1 (Or.inl ⟨rfl, z⟩)⟩
    · intro P' fl' f01' hk
      show wX8_breaksAbove_36_b S t M0 fl' a ((0 : Int) + (M0.toNat : Int)) (fun b0 b1 => P (b0, b1)) (fun b0 b1 => P' (b0, b1)) k
      unfold wX8_breaksAbove_36_b
      exact ⟨fun _ => hk, fun z => by omega⟩
    · rw [ex, w32_eq (by omega) (by omega)]
      by_cases f : fl = 0
      · rcases z with z | ⟨b, b0, b1, b2⟩
        · omega
        · exact p2 f ⟨b, b0, by omega, b2⟩
      · exact p1 f
    · rw [ex, w32_eq (by omega) (by omega)]
      exact p3 (f01.elim id (fun e => absurd (Or.inl e) z)) (fun ⟨b, b0, b1, b2⟩ => z (Or.inr ⟨b, b0, by omega, b2⟩))
  · intro P fl f01 hk
    show wX8_breaksAbove_16_b S t M0 fl (M0 + ((M1 - M0).toNat : Int)) (fun b0 b1 => P (b0, b1)) k
    unfold wX8_breaksAbove_16_b
    refine R_t hS hh ht ?_
    rw [e25]
    exact ⟨by omega, fun _ => ⟨f01, hk⟩, fun z => by omega⟩
  · rcases z with z | ⟨a, a0, a1, a2⟩
    · exact absurd z (by decide)
    · exact ⟨a, a0, by omega, a2⟩
  · obtain ⟨a, a0, a1, a2⟩ := w
    exact ⟨a, a0, by omega, a2⟩
/-- one NAME and kinds alike, neither static nor own, of types side by side, results unlike -/
def quar (D : St) (h t a b : Int) : Prop := abv D h t a ∧ abv D h t b ∧ ¬ und D h (D 28 (120 * h + a)) (D 28 (120 * h + b)) ∧ ¬ und D h (D 28 (120 * h + b)) (D 28 (120 * h + a)) ∧ bare D h a ∧ bare D h b ∧ seL D h t a b ∧ ¬ kSeen D h t a 2 = kSeen D h t b 2
def clsh (D : St) (h t M0 M1 : Int) : Prop := ∃ a, 0 ≤ a ∧ a < M0 ∧ ∃ b, a + 1 ≤ b ∧ b < M0 ∧ quar D h t a b ∧ ¬ ∃ x, M0 ≤ x ∧ x < M1 ∧ (ovr D h x a ∨ ovr D h x b)
theorem R_isBare {S D : St} {h a : Int} {k : Int → Prop} (A : AgD S D) (hS : S 0 10 = h) (hh : half01 h) (ha : 0 ≤ a ∧ a < 120) (h1 : bare D h a → k 1) (h0 : ¬ bare D h a → k 0) : wX8_isBare S a k := by
  have hb01 : 0 ≤ h ∧ h ≤ 1 := by unfold half01 at hh; omega
  unfold wX8_isBare wX8_isBare_0
  refine R_m hS hh (by omega) ?_
  rw [A 31 _ (by decide) (by decide)]
  refine ⟨by omega, fun z => h0 (fun g => g.1 z), fun z => R_m hS hh (by omega) ?_⟩
  rw [A 30 _ (by decide) (by decide)]
  exact ⟨by omega, fun z2 => h0 (fun g => g.2 z2), fun z2 => h1 ⟨z, z2⟩⟩
theorem R_clashes {S D : St} {h t M0 M1 : Int} {k : Int → Prop} (A : AgD S D) (hS : S 0 10 = h) (X : RX D h t M0 M1) (z1 : ∀ a o, M0 ≤ a → a < M1 → 0 ≤ o → o < 120 → D 34 (120 * (120 * h + a) + o) = 0 ∨ D 34 (120 * (120 * h + a) + o) = 1) (h1 : clsh D h t M0 M1 → k 1) (h0 : ¬ clsh D h t M0 M1 → k 0) : wX8_clashes S t k := by
  obtain ⟨hh, ht, hM, hF, hK, h34⟩ := X
  have hb01 : 0 ≤ h ∧ h ≤ 1 := by unfold half01 at hh; omega
  unfold wX8_clashes wX8_clashes_0
  refine R_t hS hh ht ?_
  rw [A 24 _ (by decide) (by decide), hF.1]
  refine ⟨by omega, fun x ex => ?_⟩
  rw [ex]
  have one : ∀ (a b : Int) (k' : Int → Prop), (0 ≤ a ∧ a < M0) → (0 ≤ b ∧ b < M0) → ((∃ x, M0 ≤ x ∧ x < M1 ∧ (ovr D h x a ∨ ovr D h x b)) → k' 1) → (¬ (∃ x, M0 ≤ x ∧ x < M1 ∧ (ovr D h x a ∨ ovr D h x b)) → k' 0) → wX8_overridesOne S t a b k' := by
    intro a b k' ha hb y1 y0
    unfold wX8_overridesOne wX8_overridesOne_0
    refine R_t hS hh ht ?_
    rw [A 24 _ (by decide) (by decide), hF.1]
    refine ⟨by omega, fun x ex => ?_⟩
    rw [ex]
    have e25 : w32 (M0 + S 25 (24 * h + t)) = M1 := by rw [A 25 _ (by decide) (by decide), w32_eq (by omega) (by omega)]; omega
    have e24 : S 24 (24 * h + t) = M0 := (A 24 _ (by decide) (by decide)).trans hF.1
    unfold wX8_overridesOne_15
    refine wlp_any (lo := M0) (M1 - M0).toNat (fun x => ovr D h x a ∨ ovr D h x b) k' ?_ ?_ 0 (Or.inl rfl) (fun z => y1 ?_) (fun z => y0 (fun ⟨x, x0, x1, x2⟩ => z (Or.inr ⟨x, x0, by omega, x2⟩)))
    · intro P i fl hi f01 p1 p2 p3
      show wX8_overridesOne_15_b S t a b fl (M0 + i) (fun b0 b1 => P (b0, b1)) k'
      unfold wX8_overridesOne_15_b wX8_overridesOne_66
      have w1 : w32 (M0 + i + 1) = M0 + i + 1 := w32_eq (by omega) (by omega)
      refine R_t hS hh ht ⟨by omega, R_t hS hh ht ?_⟩
      rw [e24, e25, w1]
      refine ⟨by omega, fun z => by omega, fun _ => ⟨fun z x ex => by rw [ex]; exact p1 z, fun z => R_isOver A hS hh (by omega) (by omega) (z1 _ _ (by omega) (by omega) (by omega) (by omega)) (fun g => ⟨fun _ x ex => by rw [ex]; exact p2 z (Or.inl g), fun z => absurd z (by decide)⟩) (fun g => ⟨fun z => absurd rfl z, fun _ => R_isOver A hS hh (by omega) (by omega) (z1 _ _ (by omega) (by omega) (by omega) (by omega)) (fun g2 => ⟨fun z => absurd z (by decide), fun _ x ex => by rw [ex]; exact p2 z (Or.inr g2)⟩) (fun g2 => ⟨fun _ x ex => by rw [ex]; exact p3 z (fun w => w.elim g g2), fun z => absurd rfl z⟩)⟩)⟩⟩
    · intro P fl f01 hk
      show wX8_overridesOne_15_b S t a b fl (M0 + ((M1 - M0).toNat : Int)) (fun b0 b1 => P (b0, b1)) k'
      unfold wX8_overridesOne_15_b
      refine R_t hS hh ht ⟨by omega, R_t hS hh ht ?_⟩
      rw [e24, e25]
      exact ⟨by omega, fun _ => ⟨f01, hk⟩, fun z => by omega⟩
    · rcases z with z | ⟨x, x0, x1, x2⟩
      · exact absurd z (by decide)
      · exact ⟨x, x0, by omega, x2⟩
  unfold wX8_clashes_16
  refine wlp_any (lo := 0) M0.toNat (fun a => ∃ b, a + 1 ≤ b ∧ b < M0 ∧ quar D h t a b ∧ ¬ ∃ x, M0 ≤ x ∧ x < M1 ∧ (ovr D h x a ∨ ovr D h x b)) k ?_ ?_ 0 (Or.inl rfl) (fun z => h1 ?_) (fun z => h0 (fun ⟨a, a0, a1, a2⟩ => z (Or.inr ⟨a, a0, by omega, a2⟩)))
  · intro P i fl hi f01 p1 p2 p3
    obtain ⟨a, ea⟩ : ∃ a, a = (0 : Int) + (i : Int) := ⟨_, rfl⟩
    have ha : 0 ≤ a ∧ a < M0 := by omega
    have oka := hK a ha.1 (by omega)
    rw [← ea] at p1 p2 p3 ⊢
    show wX8_clashes_16_b S t M0 fl a (fun b0 b1 => P (b0, b1)) k
    unfold wX8_clashes_16_b
    refine ⟨fun z => by omega, fun _ x ex => ?_⟩
    rw [w32_eq (by omega) (by omega)] at ex
    rw [ex]
    unfold wX8_clashes_28
    refine wlp_any (lo := a + 1) (M0 - (a + 1)).toNat (fun b => quar D h t a b ∧ ¬ ∃ x, M0 ≤ x ∧ x < M1 ∧ (ovr D h x a ∨ ovr D h x b)) (fun fl' => ∀ x_2 : Int, x_2 = w32 (a + 1) → P (fl', x_2)) ?_ ?_ fl f01 (fun z x ex => ?_) (fun z x ex => ?_)
    · intro P' j fl' hj f01' q1 q2 q3
      obtain ⟨n, en⟩ : ∃ n, n = a + 1 + (j : Int) := ⟨_, rfl⟩
      have hn : 0 ≤ n ∧ n < M0 := by omega
      have okn := hK n hn.1 (by omega)
      have o28 := okn.2.1
      have o28a := oka.2.1
      rw [← en] at q1 q2 q3 ⊢
      have w1 : w32 (n + 1) = n + 1 := w32_eq (by omega) (by omega)
      have no : ¬ quar D h t a n → ∀ x : Int, x = w32 (n + 1) → P' (fl', x) := by
        intro z x ex
        rw [ex, w1]
        by_cases f : fl' = 0
        · rw [f]; exact q3 f (fun w => z w.1)
        · have : fl' = 1 := by omega
          rw [this]; exact q1 f
      show wX8_clashes_28_b S t M0 fl' a n (fun b0 b1 => P (b0, b1)) (fun b0 b1 => P' (b0, b1)) k
      unfold wX8_clashes_28_b wX8_clashes_185
      refine ⟨fun z => by omega, fun _ => R_m hS hh (by omega) ?_⟩
      rw [A 28 _ (by decide) (by decide)]
      refine ⟨by omega, fun x ex => R_m hS hh (by omega) ?_⟩
      rw [A 28 _ (by decide) (by decide)]
      refine ⟨by omega, fun y ey => R_t hS hh ht ?_⟩
      rw [ex, ey, w32_eq (x := 24 * (24 * h + t)) (by omega) (by omega), w32_eq (by omega) (by omega), A 22 _ (by decide) (by decide)]
      refine ⟨by omega, fun z => no (fun w => w.1 z), fun ya => R_t hS hh ht ?_⟩
      rw [w32_eq (x := 24 * (24 * h + t)) (by omega) (by omega), w32_eq (by omega) (by omega), A 22 _ (by decide) (by decide)]
      refine ⟨by omega, fun z => no (fun w => w.2.1 z), fun yb => R_und A hS hh (by omega) (by omega) (fun u => ⟨fun _ => no (fun w => w.2.2.1 u), fun z => absurd z (by decide)⟩) (fun u1 => ⟨fun z => absurd rfl z, fun _ => R_und A hS hh (by omega) (by omega) (fun u => ⟨fun _ => no (fun w => w.2.2.2.1 u), fun z => absurd z (by decide)⟩) (fun u2 => ⟨fun z => absurd rfl z, fun _ => R_isBare A hS hh oka.1 (fun ba => ⟨fun z => absurd z (by decide), fun _ => R_isBare A hS hh okn.1 (fun bb => ⟨fun z => absurd z (by decide), fun _ => R_isLike A hS hh ht oka okn (fun sl => ⟨fun z => absurd z (by decide), fun _ => R_kindSeen A hS hh ht oka.1 (by decide) (oka.2.2.2 2 (by decide) (by decide)) oka.2.1 (R_kindSeen A hS hh ht okn.1 (by decide) (okn.2.2.2 2 (by decide) (by decide)) okn.2.1 ⟨fun e => no (fun w => w.2.2.2.2.2.2.2 e), fun e => ?_⟩)⟩) (fun sl => ⟨fun _ => no (fun w => sl w.2.2.2.2.2.2.1), fun z => absurd rfl z⟩)⟩) (fun bb => ⟨fun _ => no (fun w => bb w.2.2.2.2.2.1), fun z => absurd rfl z⟩)⟩) (fun ba => ⟨fun _ => no (fun w => ba w.2.2.2.2.1), fun z => absurd rfl z⟩)⟩)⟩)⟩
      have q : quar D h t a n := ⟨ya, yb, u1, u2, ba, bb, sl, e⟩
      refine ⟨fun z x ex => by rw [ex, w1]; exact q1 z, fun z => one a n _ ha hn (fun g => ⟨fun _ x ex => by rw [ex, w1]; exact q3 z (fun w => w.2 g), fun z => absurd z (by decide)⟩) (fun g => ⟨fun z => absurd rfl z, fun _ x ex => by rw [ex, w1]; exact q2 z ⟨q, g⟩⟩)⟩
    · intro P' fl' f01' hk
      show wX8_clashes_28_b S t M0 fl' a (a + 1 + ((M0 - (a + 1)).toNat : Int)) (fun b0 b1 => P (b0, b1)) (fun b0 b1 => P' (b0, b1)) k
      unfold wX8_clashes_28_b
      exact ⟨fun _ => hk, fun z => by omega⟩
    · rw [ex, w32_eq (by omega) (by omega)]
      by_cases f : fl = 0
      · rcases z with z | ⟨b, b0, b1, b2⟩
        · omega
        · exact p2 f ⟨b, b0, by omega, b2⟩
      · exact p1 f
    · rw [ex, w32_eq (by omega) (by omega)]
      exact p3 (f01.elim id (fun e => absurd (Or.inl e) z)) (fun ⟨b, b0, b1, b2⟩ => z (Or.inr ⟨b, b0, by omega, b2⟩))
  · intro P fl f01 hk
    show wX8_clashes_16_b S t M0 fl ((0 : Int) + (M0.toNat : Int)) (fun b0 b1 => P (b0, b1)) k
    unfold wX8_clashes_16_b
    exact ⟨fun _ => ⟨f01, hk⟩, fun z => by omega⟩
  · rcases z with z | ⟨a, a0, a1, a2⟩
    · exact absurd z (by decide)
    · exact ⟨a, a0, by omega, a2⟩
