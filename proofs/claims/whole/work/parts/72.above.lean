/-! pure: close: those above a type: the class -/
theorem isO_t {b t : Int} (hb : b = 2 ∨ b = 515) (ht : 0 ≤ t ∧ t < 24) : isO 6 (ty b t) := by
  have e : ∀ n : Nat, n < 24 → isO 6 (ty 2 (n : Int)) ∧ isO 6 (ty 515 (n : Int)) := by
    intro n hn
    have e1 : ∀ n : Nat, n < 24 → kd (ty 2 (n : Int)).toNat = 6 ∧ kd (ty 515 (n : Int)).toNat = 6 := by decide
    have := e1 n hn
    unfold isO
    unfold ty at this ⊢
    exact ⟨⟨by omega, by omega, this.1⟩, ⟨by omega, by omega, this.2⟩⟩
  have := e t.toNat (by omega)
  rw [show (t.toNat : Int) = t by omega] at this
  rcases hb with rfl | rfl
  · exact this.1
  · exact this.2
def isRf (D : St) (h t x : Int) : Prop := ∃ n, 0 ≤ n ∧ n < D 16 (24 * h + t) ∧ rf D h t n = x
/-- off what is gathered above nothing has changed -/
def offX (E S : St) (b t : Int) : Prop := ∀ a j, ¬ (a = ty b t ∧ (j = 12 ∨ j = 14)) → ¬ a = ty b t + 4 → ¬ a = ty b t + 5 → S a j = E a j
/-- what stands in the class when a type is closed -/
def HC (E : St) (b : Int) (D : St) (h t : Int) : Prop := (b = 2 ∨ b = 515) ∧ (E 1034 0 = b ∧ E 1034 1 = ty b t) ∧ (∀ u, 0 ≤ u → u < t → E (ty b u) 0 = u ∧ rA E b D h u ∧ rS E b D h u) ∧ (∀ u, 0 ≤ u → u ≤ t → E (ty b u) 6 = D 13 (24 * h + u)) ∧ E (ty b t) 9 = D 16 (24 * h + t) ∧ (∀ n, 0 ≤ n → n < D 16 (24 * h + t) → E (ty b t + 3) n = rf D h t n ∧ ∀ k, 0 ≤ k → k < D 13 (24 * h + rf D h t n) → E (ty b t + 5) (2 * rf D h t n + k) = rk D h t n k) ∧ E (ty b t) 12 = 0 ∧ (∀ x, 0 ≤ x → x < 24 → (bit (E (ty b t) 14) x ↔ isRf D h t x)) ∧ (∀ n m, 0 ≤ n → n < m → m < D 16 (24 * h + t) → ¬ rf D h t n = rf D h t m) ∧ ∀ u i, 0 ≤ u → u < t → 0 ≤ i → i < D 20 (24 * h + u) → ¬ D 22 (24 * (24 * h + u) + ab D h u i) = 0 ∧ ∀ k, 0 ≤ k → k < D 13 (24 * h + ab D h u i) → 100 ≤ sVar D h u (ab D h u i) k → sVar D h u (ab D h u i) k - 100 < D 13 (24 * h + u)
def cmpA (e : Int × Int × Int) (k : Int) : Int := if k = 0 then e.2.1 else e.2.2
/-- W has been gathered, and nothing was unlike -/
def GI (E : St) (b : Int) (D : St) (h t : Int) (W : List (Int × Int × Int)) (S : St) : Prop := offX E S b t ∧ S (ty b t) 12 = (dd W).length ∧ isL S (ty b t + 4) (dd W) ∧ (∀ x, 0 ≤ x → x < 24 → (bit (S (ty b t) 14) x ↔ x ∈ dd W ∨ isRf D h t x)) ∧ (∀ x, x ∈ dd W ∨ isRf D h t x → ∃ e, e ∈ wW D h t ∧ e.1 = x ∧ ∀ k, 0 ≤ k → k < D 13 (24 * h + x) → S (ty b t + 5) (2 * x + k) = cmpA e k) ∧ (∀ e, e ∈ W → ∀ k, 0 ≤ k → k < D 13 (24 * h + e.1) → S (ty b t + 5) (2 * e.1 + k) = cmpA e k) ∧ (∀ n, 0 ≤ n → n < D 16 (24 * h + t) → ∀ k, 0 ≤ k → k < D 13 (24 * h + rf D h t n) → S (ty b t + 5) (2 * rf D h t n + k) = rk D h t n k) ∧ ∀ j, 2 * t ≤ j → S (ty b t + 5) j = E (ty b t + 5) j
theorem ea_cmp (D : St) (h t n k q : Int) (hq : q = 0 ∨ q = 1) : cmpA (w2 D h t n k) q = ea D h t n (ab D h (rf D h t n) k) q := by
  unfold cmpA w2
  rcases hq with rfl | rfl
  · rfl
  · rfl
section Above
variable {E D : St} {b h t : Int}
theorem HC.ty_lt (H : HT D h t) {u : Int} (hu : 0 ≤ u ∧ u ≤ t) (b : Int) : b + 6 ≤ ty b u ∧ ty b u ≤ b + 144 ∧ (u < t → ty b u + 5 < ty b t) := by
  have := H.2.1
  unfold ty
  omega
/-- the arguments of one above, by way of a REF -/
theorem C_takeArguments {S : St} {W : List (Int × Int × Int)} {n i x : Int} {k : Int → St → Prop} (H : HT D h t) (C : HC E b D h t) (G : GI E b D h t W S) (hn : 0 ≤ n ∧ n < D 16 (24 * h + t)) (hi : 0 ≤ i ∧ i < D 20 (24 * h + rf D h t n)) (ex : x = ab D h (rf D h t n) i) (hW : w2 D h t n i ∈ wW D h t)
    (h1 : ∀ S', offX E S' b t → (∀ j, S' (ty b t + 4) j = S (ty b t + 4) j) → S' (ty b t) 12 = S (ty b t) 12 → (∀ y, 0 ≤ y → y < 24 → (bit (S' (ty b t) 14) y ↔ bit (S (ty b t) 14) y ∨ y = x)) → (∀ k, 0 ≤ k → k < D 13 (24 * h + x) → S' (ty b t + 5) (2 * x + k) = cmpA (w2 D h t n i) k) → (∀ j, ¬ (∃ k, 0 ≤ k ∧ k < D 13 (24 * h + x) ∧ j = 2 * x + k) → S' (ty b t + 5) j = S (ty b t + 5) j) → ((x ∈ dd W ∨ isRf D h t x) → ∀ j, S' (ty b t + 5) j = S (ty b t + 5) j) → k 1 S') (h0 : ∀ S', (∀ a j, ¬ a = ty b t + 5 → S' a j = S a j) → ¬ agr D h (wW D h t) → k 0 S') : wX0_takeArguments S (ty b (rf D h t n)) x k := by
  obtain ⟨hb, ⟨c0, c1⟩, cu, cv, c9, cr, c12, cb, cd, ca⟩ := C
  obtain ⟨hh, ht, ⟨hr1, hr2⟩, h13, hu, hs⟩ := H
  obtain ⟨G1, G2, G3, G4, G5, G6, G7, G8⟩ := G
  have hb01 : 0 ≤ h ∧ h ≤ 1 := by unfold half01 at hh; omega
  have r := hr2 n hn.1 hn.2
  have hx := (hu _ r.1 r.2).2 i hi.1 hi.2
  rw [← ex] at hx
  have v13 := h13 x hx.1 (by omega)
  have ca' := ca _ i r.1 r.2 hi.1 hi.2
  rw [← ex] at ca'
  have d0 : S 1034 0 = b := (G1 _ _ (by unfold ty; omega) (by unfold ty; omega) (by unfold ty; omega)).trans c0
  have d1 : S 1034 1 = ty b t := (G1 _ _ (by unfold ty; omega) (by unfold ty; omega) (by unfold ty; omega)).trans c1
  have it := isO_t hb ht
  have ib := isO_b hb
  -- what each round compares with
  have val : ∀ q, 0 ≤ q → q < D 13 (24 * h + x) → E (ty b (rf D h t n) + 5) (2 * x + q) = sVar D h (rf D h t n) x q := fun q q0 q1 => (cu _ r.1 r.2).2.2 x hx.1 (by omega) (Or.inr ca'.1) q q0 q1
  unfold wX0_takeArguments wX0_takeArguments_0
  intro y ey
  rw [d1] at ey
  refine ⟨by rw [ey]; exact it, ?_⟩
  have main : ∀ kn : Int, ((kn = 1 ∧ bit (S (ty b t) 14) x) ∨ (kn = 0 ∧ ¬ bit (S (ty b t) 14) x)) → wX0_takeArguments_12 S (ty b (rf D h t n)) x kn 0 k := by
    intro kn hkn
    unfold wX0_takeArguments_12
    refine wlp_for (D 13 (24 * h + x)).toNat (fun q S1 => (∀ a j, ¬ a = ty b t + 5 → S1 a j = S a j) ∧ (∀ j, ¬ (∃ k, 0 ≤ k ∧ k < D 13 (24 * h + x) ∧ j = 2 * x + k) → S1 (ty b t + 5) j = S (ty b t + 5) j) ∧ (∀ k : Int, 0 ≤ k → k < q → S1 (ty b t + 5) (2 * x + k) = cmpA (w2 D h t n i) k) ∧ (kn = 1 → ∀ j, S1 (ty b t + 5) j = S (ty b t + 5) j) ∧ ∀ k : Int, (q : Int) ≤ k → S1 (ty b t + 5) (2 * x + k) = S (ty b t + 5) (2 * x + k)) ?_ ?_ ⟨fun _ _ _ => rfl, fun _ _ => rfl, fun k k0 k1 => by omega, fun _ _ => rfl, fun _ _ => rfl⟩
    · intro P q S1 hq hI hP
      obtain ⟨I1, I2, I3, I4, I5⟩ := hI
      show wX0_takeArguments_12_b S1 (ty b (rf D h t n)) x kn q (fun b0 b1 => P (b0, b1)) k
      unfold wX0_takeArguments_12_b
      have f0 : S1 1034 0 = b := (I1 _ _ (by unfold ty; omega)).trans d0
      have f1 : S1 1034 1 = ty b t := (I1 _ _ (by unfold ty; omega)).trans d1
      have f6 : S1 (ty b x) 6 = D 13 (24 * h + x) := by
        rw [I1 _ _ (by unfold ty; omega), G1 _ _ (by unfold ty; omega) (by unfold ty; omega) (by unfold ty; omega)]
        exact cv x hx.1 (by omega)
      intro w ew
      rw [f0] at ew
      refine ⟨by rw [ew]; exact ib, by omega, fun z ez => ?_⟩
      have ez : z = ty b x := by rw [ez, ew]; rfl
      rw [ez, f6]
      refine ⟨fun g => by omega, fun _ => ?_⟩
      unfold wX6_argument wX6_argument_0
      rw [w32_eq (x := x * 2) (by omega) (by omega), w32_eq (x := x * 2 + (q : Int)) (by omega) (by omega)]
      have f5 : S1 (ty b (rf D h t n) + 5) (x * 2 + q) = sVar D h (rf D h t n) x q := by
        rw [I1 _ _ (by unfold ty; omega), G1 _ _ (by unfold ty; omega) (by unfold ty; omega) (by unfold ty; omega), show x * 2 + (q : Int) = 2 * x + q by omega]
        exact val q (by omega) (by omega)
      rw [f5]
      have q01 : (q : Int) = 0 ∨ (q : Int) = 1 := by omega
      have comp : ∀ v, v = cmpA (w2 D h t n i) q → wX0_takeArguments_63 S1 (ty b (rf D h t n)) x kn q v (fun b0 b1 => P (b0, b1)) k := by
        intro v ev
        have set : ((kn = 1 → S1 (ty b t + 5) (2 * x + q) = v)) → wX0_takeArguments_84 S1 (ty b (rf D h t n)) x kn q v (fun b0 b1 => P (b0, b1)) k := by
          intro same
          unfold wX0_takeArguments_84
          intro w2' ew2
          rw [f1] at ew2
          rw [ew2]
          refine ⟨it, ?_⟩
          unfold wX6_setArgument wX6_setArgument_0
          rw [w32_eq (x := x * 2) (by omega) (by omega), w32_eq (x := x * 2 + (q : Int)) (by omega) (by omega), show x * 2 + (q : Int) = 2 * x + q by omega]
          refine ⟨by omega, fun S2 e2 u eu => ?_⟩
          rw [eu, w32_eq (by omega) (by omega)]
          refine hP S2 ⟨fun a j z => by rw [e2, up_n _ (fun g => z g.1)]; exact I1 a j z, fun j z => ?_, fun k k0 k1 => ?_, fun z j => ?_, fun k k0 => ?_⟩
          · rw [e2, up_n _ (fun g => z ⟨q, by omega, by omega, g.2⟩)]; exact I2 j z
          · by_cases e : k = q
            · rw [e, e2, up_s]; exact ev
            · rw [e2, up_n _ (by omega)]; exact I3 k k0 (by omega)
          · by_cases e : j = 2 * x + q
            · rw [e, e2, up_s, ← I4 z, same z]
            · rw [e2, up_n _ (fun g => e g.2)]; exact I4 z j
          · rw [e2, up_n _ (by omega)]; exact I5 k (by omega)
        unfold wX0_takeArguments_63
        refine ⟨fun z => set (fun g => by omega), fun z w3 ew3 => ?_⟩
        have k1 : kn = 1 := by omega
        have known : bit (S (ty b t) 14) x := by
          rcases hkn with g | g
          · exact g.2
          · exact absurd g.1 z
        rw [f1] at ew3
        rw [ew3]
        refine ⟨it, ?_⟩
        unfold wX6_argument wX6_argument_0
        rw [w32_eq (x := x * 2) (by omega) (by omega), w32_eq (x := x * 2 + (q : Int)) (by omega) (by omega), show x * 2 + (q : Int) = 2 * x + q by omega]
        refine ⟨by omega, fun g => set (fun _ => g), fun g => h0 S1 I1 (fun ag => g ?_)⟩
        obtain ⟨e, e1, e2, e3⟩ := G5 x ((G4 x hx.1 (by omega)).mp known)
        have := ag (w2 D h t n i) hW e e1 (by rw [e2, ex]; rfl)
        rw [I5 q (Int.le_refl _), e3 q (by omega) (by omega), ev]
        have en : (w2 D h t n i).1 = x := by rw [ex]; rfl
        rw [en] at this
        unfold sameA at this
        unfold cmpA
        rcases q01 with g | g
        · rw [if_pos g, if_pos g]; exact (this.1 (by omega)).symm
        · rw [if_neg (by omega), if_neg (by omega)]; exact (this.2 (by omega)).symm
      have eae : cmpA (w2 D h t n i) q = ea D h t n x q := by rw [ea_cmp D h t n i q q01, ← ex]
      refine ⟨by omega, fun g => comp _ ?_, fun g w3 ew3 => ?_⟩
      · rw [eae]
        unfold ea rpl
        rw [if_pos (by omega), if_neg (by omega)]
      · rw [f1] at ew3
        rw [ew3]
        refine ⟨it, ?_⟩
        have v2 := ca'.2 q (by omega) (by omega) g
        have r13 := h13 _ r.1 (by omega)
        have f0n : S1 (ty b (rf D h t n)) 0 = rf D h t n := by
          rw [I1 _ _ (by unfold ty; omega), G1 _ _ (by unfold ty; omega) (by unfold ty; omega) (by unfold ty; omega)]
          exact (cu _ r.1 r.2).1
        rw [f0n]
        rw [w32_eq (x := sVar D h (rf D h t n) x q - 100) (by omega) (by omega), w32_eq (x := rf D h t n * 2) (by omega) (by omega), w32_eq (x := rf D h t n * 2 + (sVar D h (rf D h t n) x q - 100)) (by omega) (by omega)]
        refine ⟨by omega, comp _ ?_⟩
        rw [eae]
        unfold ea rpl
        rw [if_pos (by omega), if_pos g]
        have hxr : x < rf D h t n := hx.2
        rw [I2 _ (fun ⟨k, k0, k1, k2⟩ => by omega), show rf D h t n * 2 + (sVar D h (rf D h t n) x q - 100) = 2 * rf D h t n + (sVar D h (rf D h t n) x q - 100) by omega]
        exact G7 n hn.1 hn.2 _ (by omega) v2
    · intro P S1 hI
      obtain ⟨I1, I2, I3, I4, I5⟩ := hI
      show wX0_takeArguments_12_b S1 (ty b (rf D h t n)) x kn ((D 13 (24 * h + x)).toNat : Int) (fun b0 b1 => P (b0, b1)) k
      unfold wX0_takeArguments_12_b
      have f0 : S1 1034 0 = b := (I1 _ _ (by unfold ty; omega)).trans d0
      have f1 : S1 1034 1 = ty b t := (I1 _ _ (by unfold ty; omega)).trans d1
      have f6 : S1 (ty b x) 6 = D 13 (24 * h + x) := by
        rw [I1 _ _ (by unfold ty; omega), G1 _ _ (by unfold ty; omega) (by unfold ty; omega) (by unfold ty; omega)]
        exact cv x hx.1 (by omega)
      intro w ew
      rw [f0] at ew
      refine ⟨by rw [ew]; exact ib, by omega, fun z ez => ?_⟩
      have ez : z = ty b x := by rw [ez, ew]; rfl
      rw [ez, f6]
      refine ⟨fun _ w2 ew2 => ?_, fun g => by omega⟩
      rw [f1] at ew2
      rw [ew2]
      refine ⟨it, fun S2 e2 => ?_⟩
      have o2 : ∀ a j, ¬ (a = ty b t ∧ j = 14) → S2 a j = S1 a j := fun a j z => by rw [e2, up_n _ z]
      refine h1 S2 (fun a j z1 z2 z3 => ?_) (fun j => ?_) ?_ (fun y y0 y1 => ?_) (fun k k0 k1 => ?_) (fun j z => ?_) (fun z j => ?_)
      · rw [o2 a j (by omega), I1 a j z3]; exact G1 a j z1 z2 z3
      · rw [o2 _ _ (by omega)]; exact I1 _ _ (by omega)
      · rw [o2 _ _ (by omega)]; exact I1 _ _ (by omega)
      · rw [e2, up_s, I1 _ _ (by omega)]; exact bit_or ⟨hx.1, by omega⟩ ⟨y0, y1⟩
      · rw [o2 _ _ (by omega)]; exact I3 k k0 (by omega)
      · rw [o2 _ _ (by omega)]; exact I2 j z
      · rw [o2 _ _ (by omega)]
        refine I4 ?_ j
        rcases hkn with g | g
        · exact g.1
        · exact absurd ((G4 x hx.1 (by omega)).mpr z) g.2
  unfold wX6_isBelow wX6_isBelow_0
  rw [ey]
  refine ⟨fun z => main 0 (Or.inr ⟨rfl, fun g => g z⟩), fun z => main 1 (Or.inl ⟨rfl, z⟩)⟩
/-- the type x stands in the row of those above -/
theorem C_list {S : St} {L : List Int} {x li : Int} {k : Int → St → Prop} (hb : b = 2 ∨ b = 515) (ht : 0 ≤ t ∧ t < 24) (hx : 0 ≤ x ∧ x < t) (d1 : S 1034 1 = ty b t) (h12 : S (ty b t) 12 = L.length) (hL : isL S (ty b t + 4) L) (hl : ¬ x ∈ L → L.length < 24) (hli : ∀ y, 0 ≤ y → y < 24 → (bit li y ↔ y ∈ L))
    (hk : ∀ S' li', (∀ a j, ¬ (a = ty b t ∧ j = 12) → ¬ a = ty b t + 4 → S' a j = S a j) → S' (ty b t) 12 = ((if x ∈ L then L else L ++ [x]).length : Int) → isL S' (ty b t + 4) (if x ∈ L then L else L ++ [x]) → (∀ y, 0 ≤ y → y < 24 → (bit li' y ↔ y ∈ (if x ∈ L then L else L ++ [x]))) → k li' S') : wX0_list S x li k := by
  have it := isO_t hb ht
  have b1 := hli x hx.1 (by omega)
  unfold bit at b1
  have bn : ∀ y, 0 ≤ y → y < 24 → (bit (or32 li (shl32 1 x)) y ↔ y ∈ (if x ∈ L then L else L ++ [x])) := by
    intro y y0 y1
    rw [bit_or ⟨hx.1, by omega⟩ ⟨y0, y1⟩, hli y y0 y1]
    by_cases c : x ∈ L
    · rw [if_pos c]
      exact ⟨fun z => z.elim id (fun e => by rw [e]; exact c), fun z => Or.inl z⟩
    · rw [if_neg c, List.mem_append, List.mem_singleton]
  unfold wX0_list wX0_list_0 wX0_list_49
  refine ⟨fun z => ?_, fun z y ey => ?_⟩
  · have c := b1.mp z
    refine hk S _ (fun _ _ _ _ => rfl) ?_ ?_ bn
    · rw [if_pos c]; exact h12
    · rw [if_pos c]; exact hL
  · have c : ¬ x ∈ L := fun w => (b1.mpr w) z
    have hl24 := hl c
    rw [d1] at ey
    rw [ey]
    refine ⟨it, ?_⟩
    rw [h12]
    refine ⟨fun w => by omega, fun _ y2 ey2 => ?_⟩
    rw [d1] at ey2
    refine ⟨by rw [ey2]; exact it, fun y3 ey3 => ?_⟩
    rw [d1] at ey3
    rw [ey2, ey3, h12]
    refine ⟨it, by omega, fun S1 e1 y4 ey4 => ?_⟩
    have f1 : S1 1034 1 = ty b t := by rw [e1, up_n _ (by unfold ty; omega)]; exact d1
    rw [f1] at ey4
    rw [ey4]
    refine ⟨it, fun S2 e2 => ?_⟩
    have f12 : S1 (ty b t) 12 = L.length := by rw [e1, up_n _ (by omega)]; exact h12
    rw [f12, w32_eq (by omega) (by omega)] at e2
    refine hk S2 _ (fun a j z1 z2 => ?_) ?_ ?_ bn
    · rw [e2, up_n _ z1, e1, up_n _ (fun w => z2 w.1)]
    · rw [if_neg c, e2, up_s]; simp
    · rw [if_neg c, e2]
      refine isL.off (S := S1) ?_ (fun j => up_n _ (by omega))
      rw [e1]
      exact hL.snoc
theorem dd_len {W : List (Int × Int × Int)} {t : Int} (ht : 0 ≤ t ∧ t < 24) (hW : ∀ e ∈ W, 0 ≤ e.1 ∧ e.1 < t) : (dd W).length ≤ 23 := by
  have := nodup_len t.toNat _ (dd_nodup W) (fun y hy => by
    obtain ⟨e, h1, h2⟩ := (dd_mem W y).mp hy
    have := hW e h1
    omega)
  omega
theorem C_gatherAbove {k : Int → St → Prop} (H : HT D h t) (C : HC E b D h t) (h1 : agr D h (wW D h t) → ∀ S', GI E b D h t (wW D h t) S' → k 1 S') (h0 : ¬ agr D h (wW D h t) → ∀ S', offX E S' b t → k 0 S') : wX0_gatherAbove E k := by
  have H' := H
  have C' := C
  obtain ⟨hb, ⟨c0, c1⟩, cu, cv, c9, cr, c12, cb, cd, ca⟩ := C
  obtain ⟨hh, ht, ⟨hr1, hr2⟩, h13, hu, hs⟩ := H
  have hb01 : 0 ≤ h ∧ h ≤ 1 := by unfold half01 at hh; omega
  have it := isO_t hb ht
  have ib := isO_b hb
  obtain ⟨N, hN⟩ : ∃ N : Nat, D 16 (24 * h + t) = N := ⟨(D 16 (24 * h + t)).toNat, by omega⟩
  have eN : (D 16 (24 * h + t)).toNat = N := by omega
  have w1in : ∀ n : Nat, n < N → w1 D h t n ∈ wW D h t := by
    intro n hn
    have e1 : w1 D h t n ∈ wL D h t (n + 1) := List.mem_append.mpr (Or.inl (List.mem_append.mpr (Or.inr List.mem_cons_self)))
    have := wL_sub D h t (N - (n + 1)) (n + 1) _ e1
    unfold wW
    rwa [show n + 1 + (N - (n + 1)) = (D 16 (24 * h + t)).toNat by omega] at this
  unfold wX0_gatherAbove wX0_gatherAbove_0 wX0_gatherAbove_4
  refine wlp_of (fun a : Int × Int × St => ∃ n : Nat, n ≤ N ∧ a.2.1 = n ∧ GI E b D h t (wL D h t n) a.2.2 ∧ ∀ y, 0 ≤ y → y < 24 → (bit a.1 y ↔ y ∈ dd (wL D h t n))) (fun a => (N - a.2.1).toNat) ?_ ⟨0, by omega, rfl, ⟨fun _ _ _ _ _ => rfl, c12, isL.nil, fun x x0 x1 => ?_, fun x hx => ?_, fun e he => absurd he List.not_mem_nil, fun n n0 n1 k k0 k1 => (cr n n0 n1).2 k k0 k1, fun _ _ => rfl⟩, fun y y0 y1 => ⟨fun z => absurd z (bit_0 ⟨y0, y1⟩), fun z => absurd z List.not_mem_nil⟩⟩
  · intro P a ⟨n, hn, ea1, G, hli⟩ hP
    obtain ⟨li, y, S1⟩ := a
    dsimp only at ea1 G hli hP
    subst ea1
    have d0 : S1 1034 0 = b := (G.1 _ _ (by unfold ty; omega) (by unfold ty; omega) (by unfold ty; omega)).trans c0
    have d1 : S1 1034 1 = ty b t := (G.1 _ _ (by unfold ty; omega) (by unfold ty; omega) (by unfold ty; omega)).trans c1
    have d9 : S1 (ty b t) 9 = N := by rw [G.1 _ _ (by omega) (by omega) (by omega), c9]; exact hN
    show wX0_gatherAbove_4_b S1 li n (fun b0 b1 b2 => P (b0, b1, b2)) k
    unfold wX0_gatherAbove_4_b
    intro w ew
    rw [d1] at ew
    rw [ew, d9]
    refine ⟨it, fun z => ?_, fun z wf ew2 => ?_⟩
    · have e : n = N := by omega
      subst e
      have eW : wL D h t n = wW D h t := by unfold wW; rw [eN]
      rw [eW] at G
      refine h1 (fun e he e' he' ee => ?_) S1 G
      have g1 := G.2.2.2.2.2.1 e he
      have g2 := G.2.2.2.2.2.1 e' he'
      rw [← ee] at g2
      refine ⟨fun z => ?_, fun z => ?_⟩
      · have a1 := g1 0 (by omega) z
        have a2 := g2 0 (by omega) z
        rw [a1] at a2
        exact a2
      · have a1 := g1 1 (by omega) z
        have a2 := g2 1 (by omega) z
        rw [a1] at a2
        exact a2
    · have hn16 : (n : Int) < D 16 (24 * h + t) := by omega
      have r := hr2 n (by omega) hn16
      rw [d0] at ew2
      refine ⟨by rw [ew2]; exact ib, fun w3 ew3 => ?_⟩
      rw [d1] at ew3
      have d3 : S1 (ty b t + 3) n = rf D h t n := by rw [G.1 _ _ (by omega) (by omega) (by omega)]; exact (cr n (by omega) hn16).1
      rw [ew3, d3]
      refine ⟨it, by omega, by omega, fun v ev => ?_⟩
      have ev : v = ty b (rf D h t n) := by rw [ev, ew2]; rfl
      have dn : S1 v 0 = rf D h t n := by
        rw [ev, G.1 _ _ (by unfold ty; omega) (by unfold ty; omega) (by unfold ty; omega)]
        exact (cu _ r.1 r.2).1
      rw [dn]
      have ltn := wL_lt H' n (by omega)
      refine C_list hb ht r d1 G.2.1 G.2.2.1 (fun _ => by have := dd_len ht ltn; omega) hli (fun S2 li2 o2 l12 lL lb => ?_)
      have eD1 : dd (wL D h t n ++ [w1 D h t n]) = if rf D h t n ∈ dd (wL D h t n) then dd (wL D h t n) else dd (wL D h t n) ++ [rf D h t n] := dd_snoc _ _
      rw [← eD1] at l12 lL lb
      have G2 : GI E b D h t (wL D h t n ++ [w1 D h t n]) S2 := by
        obtain ⟨G1, G2, G3, G4, G5, G6, G7, G8⟩ := G
        have o5 : ∀ j, S2 (ty b t + 5) j = S1 (ty b t + 5) j := fun j => o2 _ _ (by omega) (by omega)
        have mm : ∀ x, x ∈ dd (wL D h t n ++ [w1 D h t n]) ∨ isRf D h t x ↔ x ∈ dd (wL D h t n) ∨ isRf D h t x := by
          intro x
          rw [dd_mem, dd_mem]
          constructor
          · rintro (⟨e, h1, h2⟩ | z)
            · rcases List.mem_append.mp h1 with g | g
              · exact Or.inl ⟨e, g, h2⟩
              · rw [List.mem_singleton.mp g] at h2
                exact Or.inr ⟨n, by omega, hn16, h2⟩
            · exact Or.inr z
          · rintro (⟨e, h1, h2⟩ | z)
            · exact Or.inl ⟨e, List.mem_append.mpr (Or.inl h1), h2⟩
            · exact Or.inr z
        refine ⟨fun a j z1 z2 z3 => ?_, l12, lL, fun x x0 x1 => ?_, fun x hx => ?_, fun e he => ?_, fun m m0 m1 k k0 k1 => ?_, fun j j0 => ?_⟩
        · rw [o2 a j (by omega) z2]; exact G1 a j z1 z2 z3
        · rw [o2 _ _ (by omega) (by omega), mm x]; exact G4 x x0 x1
        · obtain ⟨e, e1, e2, e3⟩ := G5 x ((mm x).mp hx)
          exact ⟨e, e1, e2, fun k k0 k1 => by rw [o5]; exact e3 k k0 k1⟩
        · rcases List.mem_append.mp he with g | g
          · intro k k0 k1
            rw [o5]; exact G6 e g k k0 k1
          · rw [List.mem_singleton.mp g]
            intro k k0 k1
            have k1' : k < D 13 (24 * h + rf D h t n) := k1
            have r13 := h13 _ r.1 (by omega)
            rw [o5]
            show S1 (ty b t + 5) (2 * rf D h t n + k) = cmpA (w1 D h t n) k
            rw [G7 n (by omega) hn16 k k0 k1']
            unfold cmpA w1
            have k01 : k = 0 ∨ k = 1 := by omega
            rcases k01 with rfl | rfl
            · rfl
            · rfl
        · rw [o5]; exact G7 m m0 m1 k k0 k1
        · rw [o5]; exact G8 j j0
      -- those above the REF
      obtain ⟨M, hM⟩ : ∃ M : Nat, D 20 (24 * h + rf D h t n) = M := ⟨(D 20 (24 * h + rf D h t n)).toNat, by have := (hu _ r.1 r.2).1; omega⟩
      have eM : (D 20 (24 * h + rf D h t n)).toNat = M := by omega
      have w2in : ∀ i : Nat, i < M → w2 D h t n i ∈ wW D h t := by
        intro i hi
        have e0 : w2 D h t n i ∈ w2L D h t n (i + 1) := List.mem_append.mpr (Or.inr List.mem_cons_self)
        have e0' := w2L_sub D h t n (M - (i + 1)) (i + 1) _ e0
        rw [show i + 1 + (M - (i + 1)) = M by omega] at e0'
        have e1 : w2 D h t n i ∈ wL D h t (n + 1) := by
          refine List.mem_append.mpr (Or.inr ?_)
          rw [eM]; exact e0'
        have := wL_sub D h t (N - (n + 1)) (n + 1) _ e1
        unfold wW
        rwa [show n + 1 + (N - (n + 1)) = (D 16 (24 * h + t)).toNat by omega] at this
      unfold wX0_gatherAbove_46
      refine wlp_of (fun a : Int × Int × St => ∃ i : Nat, i ≤ M ∧ a.2.1 = i ∧ GI E b D h t ((wL D h t n ++ [w1 D h t n]) ++ w2L D h t n i) a.2.2 ∧ ∀ y, 0 ≤ y → y < 24 → (bit a.1 y ↔ y ∈ dd ((wL D h t n ++ [w1 D h t n]) ++ w2L D h t n i))) (fun a => (M - a.2.1).toNat) ?_ ⟨0, by omega, rfl, by simpa [w2L] using G2, by simpa [w2L] using lb⟩
      intro P' a ⟨i, hi, ea1, G3, hli3⟩ hP'
      obtain ⟨li3, y, S3⟩ := a
      dsimp only at ea1 G3 hli3 hP'
      subst ea1
      have f1 : S3 1034 1 = ty b t := (G3.1 _ _ (by unfold ty; omega) (by unfold ty; omega) (by unfold ty; omega)).trans c1
      have ra := (cu _ r.1 r.2).2.1
      have g12 : S3 v 12 = M := by
        rw [ev, G3.1 _ _ (by unfold ty; omega) (by unfold ty; omega) (by unfold ty; omega), ra.1]; exact hM
      show wX0_gatherAbove_46_b S3 li3 n v i (fun b0 b1 b2 => P (b0, b1, b2)) (fun b0 b1 b2 => P' (b0, b1, b2)) k
      unfold wX0_gatherAbove_46_b
      rw [g12]
      refine ⟨fun z x ex => ?_, fun z => ⟨by have := (hu _ r.1 r.2).1; omega, fun x ex => ?_⟩⟩
      · have e : i = M := by omega
        rw [ex, w32_eq (by omega) (by omega)]
        rw [e] at G3 hli3
        refine hP (li3, (n : Int) + 1, S3) ⟨n + 1, by omega, by dsimp only; omega, ?_, ?_⟩ (by dsimp only; omega)
        · show GI E b D h t ((wL D h t n ++ [w1 D h t n]) ++ w2L D h t n (D 20 (24 * h + rf D h t n)).toNat) S3
          rw [eM]; exact G3
        · show ∀ y, 0 ≤ y → y < 24 → (bit li3 y ↔ y ∈ dd ((wL D h t n ++ [w1 D h t n]) ++ w2L D h t n (D 20 (24 * h + rf D h t n)).toNat))
          rw [eM]; exact hli3
      · have hiM : (i : Int) < D 20 (24 * h + rf D h t n) := by omega
        have g4 : S3 (v + 4) i = ab D h (rf D h t n) i := by
          rw [ev, G3.1 _ _ (by unfold ty; omega) (by unfold ty; omega) (by unfold ty; omega)]
          exact ra.2.1 i (by omega) hiM
        rw [g4] at ex
        have hx := (hu _ r.1 r.2).2 i (by omega) hiM
        rw [← ex] at hx
        have lt3 : ∀ e ∈ (wL D h t n ++ [w1 D h t n]) ++ w2L D h t n i, 0 ≤ e.1 ∧ e.1 < t := by
          intro e he
          rcases List.mem_append.mp he with g | g
          · rcases List.mem_append.mp g with g | g
            · exact ltn e g
            · rw [List.mem_singleton.mp g]; exact r
          · exact w2L_lt H' ⟨by omega, hn16⟩ i (by omega) e g
        rw [ev]
        refine C_takeArguments H' C' G3 ⟨by omega, hn16⟩ ⟨by omega, hiM⟩ ex (w2in i (by omega)) (fun S4 t1 t2 t3 t4 t5 t6 t7 => ⟨fun _ => ?_, fun z => absurd z (by decide)⟩) (fun S4 t1 t2 => ⟨fun z => absurd rfl z, fun _ => h0 t2 S4 (fun a j z1 z2 z3 => (t1 a j z3).trans (G3.1 a j z1 z2 z3))⟩)
        have q1 : S4 1034 1 = ty b t := (t1 _ _ (by unfold ty; omega) (by unfold ty; omega) (by unfold ty; omega)).trans c1
        refine C_list hb ht ⟨hx.1, by omega⟩ q1 (t3.trans G3.2.1) (G3.2.2.1.off t2) (fun _ => by have := dd_len ht lt3; omega) hli3 (fun S5 li5 o5 m12 mL mb => ?_)
        have eW : (wL D h t n ++ [w1 D h t n]) ++ w2L D h t n (i + 1) = ((wL D h t n ++ [w1 D h t n]) ++ w2L D h t n i) ++ [w2 D h t n i] := by
          show (wL D h t n ++ [w1 D h t n]) ++ (w2L D h t n i ++ [w2 D h t n i]) = _
          rw [← List.append_assoc]
        obtain ⟨W3, hW3⟩ : ∃ W3, W3 = (wL D h t n ++ [w1 D h t n]) ++ w2L D h t n i := ⟨_, rfl⟩
        have en : (w2 D h t n i).1 = x := by rw [ex]; rfl
        have eD3 : dd (W3 ++ [w2 D h t n i]) = if x ∈ dd W3 then dd W3 else dd W3 ++ [x] := by rw [dd_snoc, en]
        have M23 : (M : Int) ≤ 23 := by have := (hu _ r.1 r.2).1; omega
        rw [← hW3] at G3 hli3 m12 mL mb t7
        rw [← eD3] at m12 mL mb
        intro u eu
        rw [w32_eq (by omega) (by omega)] at eu
        refine hP' (li5, u, S5) ⟨i + 1, by omega, by dsimp only; omega, ?_, ?_⟩ (by dsimp only; omega)
        · dsimp only
          rw [eW, ← hW3]
          obtain ⟨G31, G32, G33, G34, G35, G36, G37, G38⟩ := G3
          have p5 : ∀ j, S5 (ty b t + 5) j = S4 (ty b t + 5) j := fun j => o5 _ _ (by omega) (by omega)
          have mm : ∀ y, y ∈ dd (W3 ++ [w2 D h t n i]) ↔ y ∈ dd W3 ∨ y = x := by
            intro y
            rw [dd_mem, dd_mem]
            constructor
            · rintro ⟨e, h1, h2⟩
              rcases List.mem_append.mp h1 with g | g
              · exact Or.inl ⟨e, g, h2⟩
              · rw [List.mem_singleton.mp g, en] at h2
                exact Or.inr h2.symm
            · rintro (⟨e, h1, h2⟩ | z)
              · exact ⟨e, List.mem_append.mpr (Or.inl h1), h2⟩
              · exact ⟨_, List.mem_append.mpr (Or.inr List.mem_cons_self), by rw [en, z]⟩
          have v13 := h13 x hx.1 (by omega)
          have far : ∀ y k, 0 ≤ k → k ≤ 1 → ¬ y = x → S4 (ty b t + 5) (2 * y + k) = S3 (ty b t + 5) (2 * y + k) := fun y k k0 k1 hne => t6 _ (fun ⟨q, q0, q1, q2⟩ => by omega)
          refine ⟨fun a j z1 z2 z3 => ?_, m12, mL, fun y y0 y1 => ?_, fun y hy => ?_, fun e he => ?_, fun m m0 m1 k k0 k1 => ?_, fun j j0 => ?_⟩
          · rw [o5 a j (by omega) z2]; exact t1 a j z1 z2 z3
          · rw [o5 _ _ (by omega) (by omega), t4 y y0 y1, G34 y y0 y1, mm y]
            exact ⟨fun z => z.elim (fun z => z.elim (fun w => Or.inl (Or.inl w)) Or.inr) (fun w => Or.inl (Or.inr w)), fun z => z.elim (fun z => z.elim (fun w => Or.inl (Or.inl w)) Or.inr) (fun w => Or.inl (Or.inr w))⟩
          · by_cases e : y = x
            · refine ⟨w2 D h t n i, w2in i (by omega), by rw [en, e], fun k k0 k1 => ?_⟩
              rw [p5, e]
              rw [e] at k1
              exact t5 k k0 k1
            · have hy' : y ∈ dd W3 ∨ isRf D h t y := by
                rcases hy with g | g
                · rcases (mm y).mp g with w | w
                  · exact Or.inl w
                  · exact absurd w e
                · exact Or.inr g
              obtain ⟨e', e1, e2, e3⟩ := G35 y hy'
              refine ⟨e', e1, e2, fun k k0 k1 => ?_⟩
              have y13 : D 13 (24 * h + y) ≤ 2 := by
                rcases hy' with g | g
                · obtain ⟨e'', f1, f2⟩ := (dd_mem W3 y).mp g
                  have := lt3 e'' (by rw [← hW3]; exact f1)
                  exact (h13 y (by omega) (by omega)).2
                · obtain ⟨m, m0, m1, m2⟩ := g
                  have := hr2 m m0 m1
                  exact (h13 y (by omega) (by omega)).2
              rw [p5, far y k k0 (by omega) e]; exact e3 k k0 k1
          · intro k k0 k1
            rcases List.mem_append.mp he with g | g
            · have le := lt3 e (by rw [← hW3]; exact g)
              have e13 := (h13 e.1 le.1 (by omega)).2
              by_cases c : e.1 = x
              · have hin : x ∈ dd W3 ∨ isRf D h t x := Or.inl ((dd_mem W3 x).mpr ⟨e, g, c⟩)
                rw [p5, t7 hin]; exact G36 e g k k0 k1
              · rw [p5, far e.1 k k0 (by omega) c]; exact G36 e g k k0 k1
            · rw [List.mem_singleton.mp g] at k1 ⊢
              rw [en] at k1 ⊢
              rw [p5]; exact t5 k k0 k1
          · have rm := hr2 m m0 m1
            have e13 := (h13 _ rm.1 (by omega)).2
            by_cases c : rf D h t m = x
            · have hin : x ∈ dd W3 ∨ isRf D h t x := Or.inr ⟨m, m0, m1, c⟩
              rw [p5, t7 hin]; exact G37 m m0 m1 k k0 k1
            · rw [p5, far _ k k0 (by omega) c]; exact G37 m m0 m1 k k0 k1
          · rw [p5, t6 j (fun ⟨q, q0, q1, q2⟩ => by omega)]; exact G38 j j0
        · dsimp only
          rw [eW, ← hW3]; exact mb
  · rw [cb x x0 x1]
    exact ⟨fun z => Or.inr z, fun z => z.elim (fun w => absurd w List.not_mem_nil) id⟩
  · rcases hx with g | ⟨m, m0, m1, m2⟩
    · exact absurd g List.not_mem_nil
    · refine ⟨w1 D h t m, ?_, m2, fun k k0 k1 => ?_⟩
      · have := w1in m.toNat (by omega)
        rw [show (m.toNat : Int) = m by omega] at this
        exact this
      · rw [← m2] at k1 ⊢
        have rm := hr2 m m0 m1
        have e13 := (h13 _ rm.1 (by omega)).2
        show E (ty b t + 5) (2 * rf D h t m + k) = cmpA (w1 D h t m) k
        rw [(cr m m0 m1).2 k k0 k1]
        unfold cmpA w1
        have k01 : k = 0 ∨ k = 1 := by omega
        rcases k01 with rfl | rfl
        · rfl
        · rfl
end Above
