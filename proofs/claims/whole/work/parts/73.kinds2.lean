/-! pure: close: kinds as seen, members alike, those free: the class -/
theorem fe {f g : Int → Int} (h : ∀ j, f j = g j) : f = g := funext h
theorem rT_E {E E' : St} {b : Int} {D : St} {h t : Int} (e0 : ∀ j, E' (ty b t) j = E (ty b t) j) (e1 : ∀ j, E' (ty b t + 1) j = E (ty b t + 1) j) (e2 : ∀ j, E' (ty b t + 2) j = E (ty b t + 2) j) (r : rT E b D h t) : rT E' b D h t := by
  unfold rT at r ⊢
  rw [fe e0, fe e1, fe e2]; exact r
theorem rR_E {E E' : St} {b : Int} {D : St} {h t : Int} (e0 : ∀ j, E' (ty b t) j = E (ty b t) j) (e3 : ∀ j, E' (ty b t + 3) j = E (ty b t + 3) j) (r : rR E b D h t) : rR E' b D h t := by
  unfold rR at r ⊢
  rw [fe e0, fe e3]; exact r
theorem rF_E {E E' : St} {b : Int} {D : St} {h t : Int} (e0 : ∀ j, E' (ty b t) j = E (ty b t) j) (r : rF E b D h t) : rF E' b D h t := by
  unfold rF at r ⊢
  rw [fe e0]; exact r
theorem rB_E {E E' : St} {b : Int} {D : St} {h t : Int} (e0 : ∀ j, E' (ty b t) j = E (ty b t) j) (r : rB E b D h t) : rB E' b D h t := by
  unfold rB at r ⊢
  rw [fe e0]; exact r
theorem rA_E {E E' : St} {b : Int} {D : St} {h t : Int} (e0 : ∀ j, E' (ty b t) j = E (ty b t) j) (e4 : ∀ j, E' (ty b t + 4) j = E (ty b t + 4) j) (r : rA E b D h t) : rA E' b D h t := by
  unfold rA at r ⊢
  rw [fe e0, fe e4]; exact r
theorem rS_E {E E' : St} {b : Int} {D : St} {h t : Int} (e5 : ∀ j, E' (ty b t + 5) j = E (ty b t + 5) j) (r : rS E b D h t) : rS E' b D h t := by
  unfold rS at r ⊢
  rw [fe e5]; exact r
theorem rM_E {E E' : St} {b : Int} {D : St} {h m : Int} (e0 : ∀ j, E' (me b m) j = E (me b m) j) (e1 : ∀ j, E' (me b m + 1) j = E (me b m + 1) j) (e2 : ∀ j, E' (me b m + 2) j = E (me b m + 2) j) (r : rM E b D h m) : rM E' b D h m := by
  unfold rM at r ⊢
  rw [fe e0, fe e1, fe e2]; exact r
/-- kinds as a type sees them are kinds -/
def KS (D : St) (h t M : Int) : Prop := ∀ m, 0 ≤ m → m < M → und D h t (D 28 (120 * h + m)) → ∀ q, 0 ≤ q → q ≤ 2 → (q < 2 → q < D 32 (120 * h + m)) → (100 ≤ D 33 (3 * (120 * h + m) + q) → D 33 (3 * (120 * h + m) + q) - 100 < D 13 (24 * h + D 28 (120 * h + m))) ∧ -3 ≤ kSeen D h t m q ∧ (kSeen D h t m q ≤ t ∨ (100 ≤ kSeen D h t m q ∧ kSeen D h t m q - 100 < D 13 (24 * h + t)))
/-- a type that is being closed: members from M0 on are its own -/
def CX (E : St) (b : Int) (D : St) (h t M0 M1 : Int) : Prop := (b = 2 ∨ b = 515) ∧ half01 h ∧ (0 ≤ t ∧ t < 24) ∧ (0 ≤ M0 ∧ M0 ≤ M1 ∧ M1 ≤ 120) ∧ (E (ty b t) 16 = M0 ∧ E b 3 = M1) ∧ rMs E b D h M1 ∧ (∀ u, 0 ≤ u → u ≤ t → rT E b D h u ∧ rA E b D h u) ∧ rS E b D h t ∧ (∀ m, 0 ≤ m → m < M1 → okM D h m ∧ (m < M0 → D 28 (120 * h + m) < t) ∧ (M0 ≤ m → D 28 (120 * h + m) = t)) ∧ KS D h t M1 ∧ ∀ u, 0 ≤ u → u ≤ t → (0 ≤ D 13 (24 * h + u) ∧ D 13 (24 * h + u) ≤ 2) ∧ ∀ k, 0 ≤ k → k < D 13 (24 * h + u) → -1 ≤ D 15 (2 * (24 * h + u) + k) ∧ D 15 (2 * (24 * h + u) + k) ≤ u
/-- the closer over it -/
def CR (S E : St) (b t : Int) : Prop := AgC S E b ∧ S 1034 0 = b ∧ S 1034 1 = ty b t
def abv (D : St) (h t n : Int) : Prop := ¬ D 22 (24 * (24 * h + t) + D 28 (120 * h + n)) = 0
def bare (D : St) (h n : Int) : Prop := ¬ D 31 (120 * h + n) = 1 ∧ ¬ D 30 (120 * h + n) = 0
def rch (D : St) (h t n : Int) : Prop := 1 < D 30 (120 * h + n) ∨ sam D h t (D 28 (120 * h + n))
section Closer
variable {S E D : St} {b h t M0 M1 : Int}
theorem CX.mm (C : CX E b D h t M0 M1) {m : Int} (hm : 0 ≤ m ∧ m < M1) : (0 ≤ D 28 (120 * h + m) ∧ D 28 (120 * h + m) ≤ t) := by
  have h1 := C.2.2.2.2.2.2.2.2.1 m hm.1 hm.2
  have h2 := h1.1.2.1
  by_cases c : m < M0
  · have := h1.2.1 c; omega
  · have := h1.2.2 (by omega); omega
theorem CX.own (C : CX E b D h t M0 M1) {m : Int} (hm : M0 ≤ m ∧ m < M1) : und D h t (D 28 (120 * h + m)) := Or.inl ((C.2.2.2.2.2.2.2.2.1 m (by have := C.2.2.2.1; omega) hm.2).2.2 hm.1).symm
theorem CX.rm (C : CX E b D h t M0 M1) {m : Int} (hm : 0 ≤ m ∧ m < M1) : rM E b D h m := C.2.2.2.2.2.1 m hm.1 hm.2
theorem CR.mm (R : CR S E b t) {m j : Int} (hm : 0 ≤ m ∧ m < 121) : S (me b m) j = E (me b m) j := R.1 _ _ (by unfold me; omega) (by unfold me; omega)
theorem CR.tt (R : CR S E b t) {u j : Int} (hu : 0 ≤ u ∧ u < 24) : S (ty b u) j = E (ty b u) j := R.1 _ _ (by unfold ty; omega) (by unfold ty; omega)
theorem C_kindSeen {m q : Int} {k : Int → Prop} (C : CX E b D h t M0 M1) (R : CR S E b t) (hm : 0 ≤ m ∧ m < M1) (hq : 0 ≤ q ∧ q ≤ 2) (u : und D h t (D 28 (120 * h + m))) (hk : k (kOr D h m q (kSeen D h t m q))) : wX2_kindSeen S b (ty b t) (me b m) q k := by
  have c5 := C.2.2.2.1
  have ht := C.2.2.1
  have r := C.rm hm
  have m5 := r.2.2.2.2.2 q hq.1 hq.2
  have hD := C.mm hm
  have okm := (C.2.2.2.2.2.2.2.2.1 m hm.1 hm.2).1
  unfold wX2_kindSeen wX2_kindSeen_0
  have e1 : S (me b m + 1) q = kOr D h m q (D 33 (3 * (120 * h + m) + q)) := (R.1 _ _ (by unfold me; omega) (by unfold me; omega)).trans m5.1
  rw [e1, R.mm (by omega), r.2.1]
  refine ⟨by omega, fun y ey => ?_⟩
  by_cases g : q < 2 ∧ D 32 (120 * h + m) ≤ q
  · unfold kOr at hk ey
    rw [if_pos g] at hk ey
    rw [ey]
    exact ⟨fun _ => hk, fun z => absurd z (by decide)⟩
  · have ks := C.2.2.2.2.2.2.2.2.2.1 m hm.1 hm.2 u q hq.1 hq.2 (by omega)
    unfold kOr at hk ey
    rw [if_neg g] at hk ey
    unfold kSeen at hk
    rw [← ey] at hk ks
    refine ⟨fun z => by rwa [if_neg (by omega)] at hk, fun z => ?_⟩
    rw [if_pos z] at hk
    have k1 := ks.1 z
    have v2 := (C.2.2.2.2.2.2.2.2.2.2 _ hD.1 hD.2).1
    have e2 := C.2.2.2.2.2.2.2.1 (D 28 (120 * h + m)) hD.1 (by omega) u (y - 100) (by omega) k1
    rw [w32_eq (x := D 28 (120 * h + m) * 2) (by omega) (by omega), w32_eq (x := D 28 (120 * h + m) * 2 + y) (by omega) (by omega), w32_eq (by omega) (by omega)]
    refine ⟨by omega, ?_⟩
    rw [R.1 _ _ (by unfold ty; omega) (by unfold ty; omega), show D 28 (120 * h + m) * 2 + y - 100 = 2 * D 28 (120 * h + m) + (y - 100) by omega, e2]
    exact hk
/-- the row of kinds seen stands -/
def KK (S D : St) (h t M1 : Int) : Prop := ∀ m, 0 ≤ m → m < M1 → und D h t (D 28 (120 * h + m)) → ∀ q, 0 ≤ q → q ≤ 2 → S 1035 (3 * m + q) = kOr D h m q (kSeen D h t m q)
theorem CR.off (R : CR S E b t) (hb : b = 2 ∨ b = 515) {S' : St} (o : ∀ a j, a < 1034 ∨ (a = 1034 ∧ j < 2) → S' a j = S a j) : CR S' E b t := ⟨fun a j x y => (o a j (by omega)).trans (R.1 a j x y), (o _ _ (by omega)).trans R.2.1, (o _ _ (by omega)).trans R.2.2⟩
theorem C_gatherKinds {k : St → Prop} (C : CX E b D h t M0 M1) (R : CR S E b t) (hk : ∀ S', (∀ a j, ¬ a = 1035 → S' a j = S a j) → KK S' D h t M1 → k S') : wX0_gatherKinds S k := by
  have hb := C.1
  have ht := C.2.2.1
  have hM := C.2.2.2.1
  have ib := isO_b hb
  have it := isO_t hb ht
  unfold wX0_gatherKinds wX0_gatherKinds_0 wX0_gatherKinds_2
  refine wlp_for M1.toNat (fun i S1 => (∀ a j, ¬ a = 1035 → S1 a j = S a j) ∧ ∀ m : Int, 0 ≤ m → m < (i : Int) → und D h t (D 28 (120 * h + m)) → ∀ q, 0 ≤ q → q ≤ 2 → S1 1035 (3 * m + q) = kOr D h m q (kSeen D h t m q)) ?_ ?_ ⟨fun _ _ _ => rfl, fun m m0 m1 => by omega⟩
  · intro P i S1 hi hI hP
    obtain ⟨I1, I2⟩ := hI
    have R1 : CR S1 E b t := R.off hb (fun a j z => I1 a j (by omega))
    have him : 0 ≤ (i : Int) ∧ (i : Int) < M1 := by omega
    have hD := C.mm him
    show wX0_gatherKinds_2_b S1 i (fun b0 b1 => P (b0, b1)) k
    unfold wX0_gatherKinds_2_b
    intro w ew
    rw [R1.2.1] at ew
    have e3 : S1 w 3 = M1 := by rw [ew]; exact (R1.1 _ _ (by omega) (by omega)).trans C.2.2.2.2.1.2
    rw [e3]
    refine ⟨by rw [ew]; exact ib, fun z => by omega, fun _ w2 ew2 => ?_⟩
    rw [R1.2.1] at ew2
    refine ⟨by rw [ew2]; exact ib, by omega, fun v ev w3 ew3 => ?_⟩
    have ev : v = me b i := by rw [ev, ew2]; rfl
    rw [R1.2.1] at ew3
    refine ⟨by rw [ew3]; exact ib, fun w4 ew4 => ?_⟩
    rw [R1.2.2] at ew4
    refine ⟨by rw [ew4]; exact it, ?_⟩
    have et : S1 w4 0 = t := by rw [ew4, R1.tt ht]; exact (C.2.2.2.2.2.2.1 t ht.1 (Int.le_refl _)).1.1
    have em : S1 v 1 = D 28 (120 * h + i) := by rw [ev, R1.mm (by omega)]; exact (C.rm him).2.1
    rw [ew3, et, em]
    refine C_isUnder R1.1 ht (by omega) (fun _ => (C.2.2.2.2.2.2.1 t ht.1 (Int.le_refl _)).2) (fun u => ⟨fun z => absurd z (by decide), fun _ => ?_⟩) (fun u => ⟨fun _ x ex => ?_, fun z => absurd rfl z⟩)
    · rw [ev]
      unfold wX0_gatherKinds_46
      refine wlp_for 3 (fun q S2 => (∀ a j, ¬ a = 1035 → S2 a j = S a j) ∧ (∀ m, 0 ≤ m → m < (i : Int) → und D h t (D 28 (120 * h + m)) → ∀ q, 0 ≤ q → q ≤ 2 → S2 1035 (3 * m + q) = kOr D h m q (kSeen D h t m q)) ∧ ∀ q' : Int, 0 ≤ q' → q' < q → S2 1035 (3 * (i : Int) + q') = kOr D h i q' (kSeen D h t i q')) ?_ ?_ ⟨I1, I2, fun q' a c => by omega⟩
      · intro P' q S2 hq hI2 hP'
        obtain ⟨J1, J2, J3⟩ := hI2
        have R2 : CR S2 E b t := R.off hb (fun a j z => J1 a j (by omega))
        show wX0_gatherKinds_46_b S2 i (me b i) q (fun b0 b1 => P (b0, b1)) (fun b0 b1 => P' (b0, b1)) k
        unfold wX0_gatherKinds_46_b
        refine ⟨fun z => by omega, fun _ w5 ew5 => ?_⟩
        rw [R2.2.1] at ew5
        refine ⟨by rw [ew5]; exact ib, fun w6 ew6 => ?_⟩
        rw [R2.2.2] at ew6
        rw [ew5, ew6]
        refine ⟨it, C_kindSeen C R2 him (by omega) u ?_⟩
        rw [w32_eq (x := (i : Int) * 3) (by omega) (by omega), w32_eq (by omega) (by omega), show (i : Int) * 3 + (q : Int) = 3 * i + q by omega]
        refine ⟨by omega, fun S3 e3 x ex => ?_⟩
        rw [ex, w32_eq (by omega) (by omega)]
        refine hP' S3 ⟨fun a j z => by rw [e3, up_n _ (fun g => z g.1)]; exact J1 a j z, fun m m0 m1 um q' q0 q1 => ?_, fun q' q0 q1 => ?_⟩
        · rw [e3, up_n _ (by omega)]; exact J2 m m0 m1 um q' q0 q1
        · by_cases e : q' = q
          · rw [e, e3, up_s]
          · rw [e3, up_n _ (by omega)]; exact J3 q' q0 (by omega)
      · intro P' S2 hI2
        obtain ⟨J1, J2, J3⟩ := hI2
        show wX0_gatherKinds_46_b S2 i (me b i) ((3 : Nat) : Int) (fun b0 b1 => P (b0, b1)) (fun b0 b1 => P' (b0, b1)) k
        unfold wX0_gatherKinds_46_b
        refine ⟨fun _ x ex => ?_, fun z => absurd z (by decide)⟩
        rw [ex, w32_eq (by omega) (by omega)]
        refine hP S2 ⟨J1, fun m m0 m1 um q q0 q1 => ?_⟩
        by_cases e : m = i
        · rw [e]; exact J3 q q0 (by omega)
        · exact J2 m m0 (by omega) um q q0 q1
    · rw [ex, w32_eq (by omega) (by omega)]
      refine hP S1 ⟨I1, fun m m0 m1 um q q0 q1 => ?_⟩
      by_cases e : m = i
      · rw [e] at um; exact absurd um u
      · exact I2 m m0 (by omega) um q q0 q1
  · intro P S1 hI
    obtain ⟨I1, I2⟩ := hI
    have R1 : CR S1 E b t := R.off hb (fun a j z => I1 a j (by omega))
    show wX0_gatherKinds_2_b S1 (M1.toNat : Int) (fun b0 b1 => P (b0, b1)) k
    unfold wX0_gatherKinds_2_b
    intro w ew
    rw [R1.2.1] at ew
    have e3 : S1 w 3 = M1 := by rw [ew]; exact (R1.1 _ _ (by omega) (by omega)).trans C.2.2.2.2.1.2
    rw [e3]
    exact ⟨by rw [ew]; exact ib, fun _ => hk S1 I1 (fun m m0 m1 => I2 m m0 (by omega)), fun z => by omega⟩
theorem like_iff {m n : Int} (C : CX E b D h t M0 M1) (hm : 0 ≤ m ∧ m < M1) (hn : 0 ≤ n ∧ n < M1) (um : und D h t (D 28 (120 * h + m))) (un : und D h t (D 28 (120 * h + n))) : (D 29 (120 * h + m) = D 29 (120 * h + n) ∧ kOr D h m 0 (kSeen D h t m 0) = kOr D h n 0 (kSeen D h t n 0) ∧ kOr D h m 1 (kSeen D h t m 1) = kOr D h n 1 (kSeen D h t n 1)) ↔ seL D h t m n := by
  have cm := (C.2.2.2.2.2.2.2.2.1 m hm.1 hm.2).1.2.2.1
  have cn := (C.2.2.2.2.2.2.2.2.1 n hn.1 hn.2).1.2.2.1
  have km := C.2.2.2.2.2.2.2.2.2.1 m hm.1 hm.2 um
  have kn := C.2.2.2.2.2.2.2.2.2.1 n hn.1 hn.2 un
  unfold seL kOr
  constructor
  · rintro ⟨h1, h2, h3⟩
    have m0 : 0 < D 32 (120 * h + m) → -3 ≤ kSeen D h t m 0 := fun z => (km 0 (by decide) (by decide) (fun _ => z)).2.1
    have m1 : 1 < D 32 (120 * h + m) → -3 ≤ kSeen D h t m 1 := fun z => (km 1 (by decide) (by decide) (fun _ => z)).2.1
    have n0 : 0 < D 32 (120 * h + n) → -3 ≤ kSeen D h t n 0 := fun z => (kn 0 (by decide) (by decide) (fun _ => z)).2.1
    have n1 : 1 < D 32 (120 * h + n) → -3 ≤ kSeen D h t n 1 := fun z => (kn 1 (by decide) (by decide) (fun _ => z)).2.1
    have e32 : D 32 (120 * h + m) = D 32 (120 * h + n) := by
      split at h2 <;> split at h2 <;> split at h3 <;> split at h3 <;> omega
    refine ⟨h1, e32, fun q q0 q1 => ?_⟩
    have q01 : q = 0 ∨ q = 1 := by omega
    rcases q01 with rfl | rfl
    · rw [if_neg (by omega), if_neg (by omega)] at h2; exact h2
    · rw [if_neg (by omega), if_neg (by omega)] at h3; exact h3
  · rintro ⟨h1, h2, h3⟩
    refine ⟨h1, ?_, ?_⟩
    · by_cases c : 0 < D 32 (120 * h + m)
      · rw [if_neg (by omega), if_neg (by omega)]; exact h3 0 (by decide) c
      · rw [if_pos (by omega), if_pos (by omega)]
    · by_cases c : 1 < D 32 (120 * h + m)
      · rw [if_neg (by omega), if_neg (by omega)]; exact h3 1 (by decide) c
      · rw [if_pos (by omega), if_pos (by omega)]
theorem C_isAlike {m n : Int} {k : Int → Prop} (C : CX E b D h t M0 M1) (R : CR S E b t) (K : KK S D h t M1) (hm : 0 ≤ m ∧ m < M1) (hn : 0 ≤ n ∧ n < M1) (um : und D h t (D 28 (120 * h + m))) (un : und D h t (D 28 (120 * h + n))) (h1 : seL D h t m n → k 1) (h0 : ¬ seL D h t m n → k 0) : wX0_isAlike S m n k := by
  have hM := C.2.2.2.1
  have ib := isO_b C.1
  have li := like_iff C hm hn um un
  unfold wX0_isAlike wX0_isAlike_0
  intro x ex y ey w ew
  rw [w32_eq (by omega) (by omega)] at ex ey
  rw [R.2.1] at ew
  refine ⟨by rw [ew]; exact ib, by omega, fun v ev w2 ew2 => ?_⟩
  have ev : v = me b m := by rw [ev, ew]; rfl
  rw [R.2.1] at ew2
  refine ⟨by rw [ew2]; exact ib, by omega, fun v2 ev2 => ?_⟩
  have ev2 : v2 = me b n := by rw [ev2, ew2]; rfl
  rw [ev, ev2, R.mm (by omega), R.mm (by omega), (C.rm hm).1, (C.rm hn).1]
  have a0 : S 1035 x = kOr D h m 0 (kSeen D h t m 0) := by rw [ex, show m * 3 = 3 * m + 0 by omega]; exact K m hm.1 hm.2 um 0 (by decide) (by decide)
  have b0 : S 1035 y = kOr D h n 0 (kSeen D h t n 0) := by rw [ey, show n * 3 = 3 * n + 0 by omega]; exact K n hn.1 hn.2 un 0 (by decide) (by decide)
  have a1 : S 1035 (w32 (x + 1)) = kOr D h m 1 (kSeen D h t m 1) := by rw [w32_eq (by omega) (by omega), ex, show m * 3 + 1 = 3 * m + 1 by omega]; exact K m hm.1 hm.2 um 1 (by decide) (by decide)
  have b1 : S 1035 (w32 (y + 1)) = kOr D h n 1 (kSeen D h t n 1) := by rw [w32_eq (by omega) (by omega), ey, show n * 3 + 1 = 3 * n + 1 by omega]; exact K n hn.1 hn.2 un 1 (by decide) (by decide)
  rw [a0, b0, a1, b1, w32_eq (x := x + 1) (by omega) (by omega), w32_eq (x := y + 1) (by omega) (by omega)]
  exact ⟨fun z => h0 (fun g => z (li.mpr g).1), fun z => ⟨by omega, by omega, fun z2 => h0 (fun g => z2 (li.mpr g).2.1), fun z2 => ⟨by omega, by omega, fun z3 => h0 (fun g => z3 (li.mpr g).2.2), fun z3 => h1 (li.mp ⟨z, z2, z3⟩)⟩⟩⟩
theorem C_isAbove {n : Int} {k : Int → Prop} (C : CX E b D h t M0 M1) (R : CR S E b t) (hn : 0 ≤ n ∧ n < M1) (h1 : abv D h t n → k 1) (h0 : ¬ abv D h t n → k 0) : wX0_isAbove S n k := by
  have hM := C.2.2.2.1
  have ht := C.2.2.1
  have hD := C.mm hn
  unfold wX0_isAbove wX0_isAbove_0
  intro w ew
  rw [R.2.2] at ew
  refine ⟨by rw [ew]; exact isO_t C.1 ht, fun w2 ew2 => ?_⟩
  rw [R.2.1] at ew2
  refine ⟨by rw [ew2]; exact isO_b C.1, by omega, fun v ev => ?_⟩
  have ev : v = me b n := by rw [ev, ew2]; rfl
  rw [ew, ev, R.mm (by omega), (C.rm hn).2.1]
  exact C_isBelow R.1 ht (by omega) (C.2.2.2.2.2.2.1 t ht.1 (Int.le_refl _)).2 (fun g => ⟨Or.inr rfl, h1 g⟩) (fun g => ⟨Or.inl rfl, h0 (fun z => z g)⟩)
theorem C_bare {n : Int} {k : Int → Prop} (C : CX E b D h t M0 M1) (R : CR S E b t) (hn : 0 ≤ n ∧ n < M1) (h1 : bare D h n → k 1) (h0 : ¬ bare D h n → k 0) : wX3_isFree S (me b n) k := by
  have hM := C.2.2.2.1
  have r := C.rm hn
  unfold wX3_isFree wX3_isFree_0
  rw [R.mm (by omega), R.mm (by omega), r.2.2.1, r.2.2.2.1]
  exact ⟨fun c => h0 (fun g => g.2 c), fun c => ⟨fun d => h0 (fun g => g.1 d), fun d => h1 ⟨d, c⟩⟩⟩
theorem C_reach {n : Int} {k : Int → Prop} (C : CX E b D h t M0 M1) (R : CR S E b t) (hn : 0 ≤ n ∧ n < M1) (h1 : rch D h t n → k 1) (h0 : ¬ rch D h t n → k 0) : wX0_isWithinReach S n k := by
  have hM := C.2.2.2.1
  have ht := C.2.2.1
  have hD := C.mm hn
  have r := C.rm hn
  unfold wX0_isWithinReach wX0_isWithinReach_0
  intro w ew
  rw [R.2.1] at ew
  refine ⟨by rw [ew]; exact isO_b C.1, by omega, fun v ev => ?_⟩
  have ev : v = me b n := by rw [ev, ew]; rfl
  rw [ev, R.mm (by omega), R.mm (by omega), r.2.1, r.2.2.1]
  refine ⟨fun z => h1 (Or.inl (by omega)), fun z w2 ew2 => ?_⟩
  rw [R.2.1] at ew2
  refine ⟨by rw [ew2]; exact isO_b C.1, fun w3 ew3 => ?_⟩
  rw [R.2.2] at ew3
  have et : S w3 0 = t := by rw [ew3, R.tt ht]; exact (C.2.2.2.2.2.2.1 t ht.1 (Int.le_refl _)).1.1
  rw [ew2, et]
  refine ⟨by rw [ew3]; exact isO_t C.1 ht, C_samePackage R.1 ht (by omega) (C.2.2.2.2.2.2.1 t ht.1 (Int.le_refl _)).1 (C.2.2.2.2.2.2.1 _ hD.1 hD.2).1 (fun g => ⟨fun z => absurd z (by decide), fun _ => h1 (Or.inr g)⟩) (fun g => ⟨fun _ => h0 (fun w => ?_), fun z => absurd rfl z⟩)⟩
  rcases w with w | w
  · omega
  · exact g w
/-- members above that are neither own nor static -/
noncomputable def fr1 (D : St) (h t n : Int) : List Int := @ite _ (abv D h t n ∧ bare D h n) (Classical.propDecidable _) [n] []
noncomputable def frN (D : St) (h t : Int) : Nat → List Int
  | 0 => []
  | n + 1 => frN D h t n ++ fr1 D h t n
theorem frN_mem (D : St) (h t : Int) (N : Nat) : ∀ n, n ∈ frN D h t N ↔ 0 ≤ n ∧ n < N ∧ abv D h t n ∧ bare D h n := by
  induction N with
  | zero =>
    intro n
    constructor
    · intro z; exact absurd z List.not_mem_nil
    · rintro ⟨a, c, _⟩; omega
  | succ N ih =>
    intro n
    rw [frN, List.mem_append, ih n]
    unfold fr1
    by_cases c : abv D h t N ∧ bare D h N
    · rw [if_pos c, List.mem_singleton]
      constructor
      · rintro (⟨a1, a2, a3⟩ | e)
        · exact ⟨a1, by omega, a3⟩
        · rw [e]; exact ⟨by omega, by omega, c⟩
      · rintro ⟨a1, a2, a3⟩
        by_cases e : n = N
        · exact Or.inr e
        · exact Or.inl ⟨a1, by omega, a3⟩
    · rw [if_neg c]
      constructor
      · rintro (⟨a1, a2, a3⟩ | e)
        · exact ⟨a1, by omega, a3⟩
        · exact absurd e List.not_mem_nil
      · rintro ⟨a1, a2, a3⟩
        by_cases e : n = N
        · rw [e] at a3; exact absurd a3 c
        · exact Or.inl ⟨a1, by omega, a3⟩
theorem frN_len (D : St) (h t : Int) (N : Nat) : (frN D h t N).length ≤ N := by
  induction N with
  | zero => simp [frN]
  | succ N ih =>
    rw [frN, List.length_append]
    have : (fr1 D h t N).length ≤ 1 := by
      unfold fr1
      split <;> simp
    omega
/-- they rise -/
theorem frN_inc (D : St) (h t : Int) (N : Nat) : ∀ i j : Nat, i < j → j < (frN D h t N).length → (frN D h t N).getD i 0 < (frN D h t N).getD j 0 := by
  induction N with
  | zero => intro i j _ hj; simp [frN] at hj
  | succ N ih =>
    intro i j hij hj
    rw [frN] at hj ⊢
    unfold fr1 at hj ⊢
    by_cases c : abv D h t N ∧ bare D h N
    · rw [if_pos c] at hj ⊢
      rw [List.length_append, List.length_singleton] at hj
      have e1 : ∀ i : Nat, i < (frN D h t N).length → (frN D h t N ++ [(N : Int)]).getD i 0 = (frN D h t N).getD i 0 := fun i hi => by
        simp [List.getElem?_append_left hi]
      by_cases ej : j = (frN D h t N).length
      · subst ej
        rw [e1 i hij]
        have := (frN_mem D h t N _).mp (getD_mem hij)
        simp
        simp at this
        omega
      · rw [e1 i (by omega), e1 j (by omega)]
        exact ih i j hij (by omega)
    · rw [if_neg c, List.append_nil] at hj ⊢
      exact ih i j hij hj
theorem C_gatherFree {k : St → Prop} (C : CX E b D h t M0 M1) (R : CR S E b t) (hk : ∀ S', (∀ a j, ¬ a = 1036 → ¬ (a = 1034 ∧ j = 4) → S' a j = S a j) → isL S' 1036 (frN D h t M0.toNat) → S' 1034 4 = (frN D h t M0.toNat).length → k S') : wX0_gatherFree S k := by
  have hb := C.1
  have ht := C.2.2.1
  have hM := C.2.2.2.1
  have ib := isO_b hb
  have it := isO_t hb ht
  unfold wX0_gatherFree wX0_gatherFree_0
  intro T eT
  unfold wX0_gatherFree_7
  refine wlp_for M0.toNat (fun i S1 => (∀ a j, ¬ a = 1036 → ¬ (a = 1034 ∧ j = 4) → S1 a j = S a j) ∧ isL S1 1036 (frN D h t i) ∧ S1 1034 4 = (frN D h t i).length) ?_ ?_ ⟨fun a j _ y => by rw [eT, up_n _ y], isL.nil, by rw [eT, up_s]; rfl⟩
  · intro P i S1 hi hI hP
    obtain ⟨I1, I2, I3⟩ := hI
    have R1 : CR S1 E b t := R.off hb (fun a j z => I1 a j (by omega) (by omega))
    have him : 0 ≤ (i : Int) ∧ (i : Int) < M1 := by omega
    have hle := frN_len D h t i
    show wX0_gatherFree_7_b S1 i (fun b0 b1 => P (b0, b1)) k
    unfold wX0_gatherFree_7_b
    intro w ew
    rw [R1.2.2] at ew
    have e16 : S1 w 16 = M0 := by rw [ew, R1.tt ht]; exact C.2.2.2.2.1.1
    rw [e16]
    have no : ¬ (abv D h t i ∧ bare D h i) → ∀ x : Int, x = w32 ((i : Int) + 1) → P (x, S1) := by
      intro z x ex
      rw [ex, w32_eq (by omega) (by omega)]
      have e : frN D h t (i + 1) = frN D h t i := by rw [frN]; unfold fr1; rw [if_neg z, List.append_nil]
      exact hP S1 ⟨I1, by rw [e]; exact I2, by rw [e]; exact I3⟩
    refine ⟨by rw [ew]; exact it, fun z => by omega, fun _ => C_isAbove C R1 him (fun g => ⟨fun z => absurd z (by decide), fun _ w2 ew2 => ?_⟩) (fun g => ⟨fun _ => no (fun z => g z.1), fun z => absurd rfl z⟩)⟩
    rw [R1.2.1] at ew2
    refine ⟨by rw [ew2]; exact ib, by omega, fun v ev => ?_⟩
    have ev : v = me b i := by rw [ev, ew2]; rfl
    rw [ev]
    refine C_bare C R1 him (fun g2 => ⟨fun z => absurd z (by decide), fun _ => ⟨by omega, fun S2 e2 S3 e3 x ex => ?_⟩⟩) (fun g2 => ⟨fun _ => no (fun z => g2 z.2), fun z => absurd rfl z⟩)
    rw [ex, w32_eq (by omega) (by omega)]
    have e : frN D h t (i + 1) = frN D h t i ++ [(i : Int)] := by rw [frN]; unfold fr1; rw [if_pos ⟨g, g2⟩]
    have f4 : S2 1034 4 = S1 1034 4 := by rw [e2, up_n _ (by omega)]
    refine hP S3 ⟨fun a j x y => ?_, ?_, ?_⟩
    · rw [e3, up_n _ y, e2, up_n _ (fun z => x z.1)]; exact I1 a j x y
    · rw [e3, e]
      refine isL.off (S := S2) ?_ (fun j => up_n _ (by omega))
      rw [e2, I3]
      exact I2.snoc
    · rw [e3, up_s, f4, I3, w32_eq (by omega) (by omega), e]
      simp
  · intro P S1 hI
    obtain ⟨I1, I2, I3⟩ := hI
    have R1 : CR S1 E b t := R.off hb (fun a j z => I1 a j (by omega) (by omega))
    show wX0_gatherFree_7_b S1 (M0.toNat : Int) (fun b0 b1 => P (b0, b1)) k
    unfold wX0_gatherFree_7_b
    intro w ew
    rw [R1.2.2] at ew
    have e16 : S1 w 16 = M0 := by rw [ew, R1.tt ht]; exact C.2.2.2.2.1.1
    rw [e16]
    exact ⟨by rw [ew]; exact it, fun _ => hk S1 I1 I2 I3, fun z => by omega⟩
end Closer
