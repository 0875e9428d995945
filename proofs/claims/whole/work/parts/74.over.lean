/-! pure: close: who OVERRIDES whom: both -/
def OvS (D : St) (h t M0 m : Int) (f : Int → Prop) : Prop := ∀ n, 0 ≤ n → n < M0 → (f n ↔ abv D h t n ∧ bare D h m ∧ bare D h n ∧ seL D h t m n ∧ (rch D h t n ∨ ∃ o, n < o ∧ o < M0 ∧ f o ∧ ovr D h o n))
theorem OvS_uniq {D : St} {h t M0 m : Int} {f g : Int → Prop} (F : OvS D h t M0 m f) (G : OvS D h t M0 m g) : ∀ (d : Nat) (n : Int), 0 ≤ n → n < M0 → M0 - n ≤ d → (f n ↔ g n) := by
  intro d
  induction d with
  | zero => intro n _ h1 h2; omega
  | succ d ih =>
    intro n n0 n1 n2
    rw [F n n0 n1, G n n0 n1]
    have e : (∃ o, n < o ∧ o < M0 ∧ f o ∧ ovr D h o n) ↔ ∃ o, n < o ∧ o < M0 ∧ g o ∧ ovr D h o n := by
      constructor
      · rintro ⟨o, a, b, c, d'⟩; exact ⟨o, a, b, (ih o (by omega) b (by omega)).mp c, d'⟩
      · rintro ⟨o, a, b, c, d'⟩; exact ⟨o, a, b, (ih o (by omega) b (by omega)).mpr c, d'⟩
    rw [e]
theorem CX_E {E E' D : St} {b h t M0 M1 : Int} (C : CX E b D h t M0 M1) (e : ∀ a j, b ≤ a → a < b + 513 → ¬ a = b + 3 → E' a j = E a j) : CX E' b D h t M0 M1 := by
  obtain ⟨c1, c2, c3, c4, c5, c6, c7, c8, c9, c10, c11⟩ := C
  refine ⟨c1, c2, c3, c4, ⟨?_, ?_⟩, ?_, ?_, ?_, c9, c10, c11⟩
  · rw [e _ _ (by unfold ty; omega) (by unfold ty; omega) (by unfold ty; omega)]; exact c5.1
  · rw [e _ _ (by omega) (by omega) (by omega)]; exact c5.2
  · intro m m0 m1
    exact rM_E (fun j => e _ _ (by unfold me; omega) (by unfold me; omega) (by unfold me; omega)) (fun j => e _ _ (by unfold me; omega) (by unfold me; omega) (by unfold me; omega)) (fun j => e _ _ (by unfold me; omega) (by unfold me; omega) (by unfold me; omega)) (c6 m m0 m1)
  · intro u u0 u1
    exact ⟨rT_E (fun j => e _ _ (by unfold ty; omega) (by unfold ty; omega) (by unfold ty; omega)) (fun j => e _ _ (by unfold ty; omega) (by unfold ty; omega) (by unfold ty; omega)) (fun j => e _ _ (by unfold ty; omega) (by unfold ty; omega) (by unfold ty; omega)) (c7 u u0 u1).1, rA_E (fun j => e _ _ (by unfold ty; omega) (by unfold ty; omega) (by unfold ty; omega)) (fun j => e _ _ (by unfold ty; omega) (by unfold ty; omega) (by unfold ty; omega)) (c7 u u0 u1).2⟩
  · exact rS_E (fun j => e _ _ (by unfold ty; omega) (by unfold ty; omega) (by unfold ty; omega)) c8
theorem hasO_b {S : St} {b m n : Int} (hm : 0 ≤ m ∧ m < 121) (hn : 0 ≤ n ∧ n < 128) : hasO S b m n ↔ bit6 (S (b + 3) (2 * m + n / 64)) n := by
  unfold hasO bit6
  rw [(o_ix m n hm.1 hm.2 hn.1 hn.2).2.2]
theorem C_hasO {S : St} {b m n : Int} {k : Int → Prop} (hm : 0 ≤ m ∧ m < 121) (hn : 0 ≤ n ∧ n < 128) (h1 : hasO S b m n → k 1) (h0 : ¬ hasO S b m n → k 0) : wX2_hasOverride S b m n k := by
  unfold wX2_hasOverride wX2_hasOverride_0
  have ix := o_ix m n hm.1 hm.2 hn.1 hn.2
  exact ⟨⟨ix.1, ix.2.1⟩, fun z => h0 (fun g => g z), fun z => h1 z⟩
theorem C_setO {S : St} {b m n : Int} {k : St → Prop} (hm : 0 ≤ m ∧ m < 121) (hn : 0 ≤ n ∧ n < 128) (hk : ∀ S', (∀ a j, ¬ a = b + 3 → S' a j = S a j) → (∀ m' n', 0 ≤ m' → m' < 121 → 0 ≤ n' → n' < 128 → (hasO S' b m' n' ↔ hasO S b m' n' ∨ (m' = m ∧ n' = n))) → k S') : wX2_setOverride S b m n k := by
  unfold wX2_setOverride wX2_setOverride_0
  have ix := o_ix m n hm.1 hm.2 hn.1 hn.2
  refine ⟨⟨ix.1, ix.2.1⟩, ⟨ix.1, ix.2.1⟩, fun S' e => hk S' (fun a j z => by rw [e, up_n _ (fun g => z g.1)]) (fun m' n' a0 a1 b0 b1 => ?_)⟩
  rw [ix.2.2] at e
  rw [hasO_b ⟨a0, a1⟩ ⟨b0, b1⟩, hasO_b ⟨a0, a1⟩ ⟨b0, b1⟩, e]
  by_cases c : 2 * m' + n' / 64 = 2 * m + n / 64
  · rw [c, up_s, bit6_or hn ⟨b0, b1⟩]
    have e2 : n' % 64 = n % 64 ↔ m' = m ∧ n' = n := by omega
    rw [e2]
  · rw [up_n _ (fun g => c g.2)]
    exact ⟨fun z => Or.inl z, fun z => z.elim id (fun w => absurd (by rw [w.1, w.2]) c)⟩
section Over
variable {S E D : St} {b h t M0 M1 : Int}
theorem C_between {m n : Int} {k : Int → Prop} (C : CX E b D h t M0 M1) (R : CR S E b t) (hm : 0 ≤ m ∧ m < M1) (hn : 0 ≤ n ∧ n < M0) (h1 : (∃ o, n < o ∧ o < M0 ∧ hasO S b m o ∧ hasO S b o n) → k 1) (h0 : ¬ (∃ o, n < o ∧ o < M0 ∧ hasO S b m o ∧ hasO S b o n) → k 0) : wX0_overridesBetween S m n k := by
  have hM := C.2.2.2.1
  have ht := C.2.2.1
  unfold wX0_overridesBetween wX0_overridesBetween_0
  intro x ex
  rw [w32_eq (by omega) (by omega)] at ex
  subst ex
  unfold wX0_overridesBetween_4
  refine wlp_fr1 (lo := n + 1) (M0 - (n + 1)).toNat (fun i => ∀ o, n < o → o < n + 1 + i → ¬ (hasO S b m o ∧ hasO S b o n)) ?_ ?_ (fun o a c => by omega)
  · intro P i hi hI hP
    show wX0_overridesBetween_4_b S m n (n + 1 + i) (fun b0 => P b0) k
    unfold wX0_overridesBetween_4_b
    intro w ew
    rw [R.2.2] at ew
    have e16 : S w 16 = M0 := by rw [ew, R.tt ht]; exact C.2.2.2.2.1.1
    rw [e16]
    have nx : ¬ (hasO S b m (n + 1 + i) ∧ hasO S b (n + 1 + i) n) → ∀ x : Int, x = w32 (n + 1 + i + 1) → P x := by
      intro z x ex
      rw [ex, w32_eq (by omega) (by omega)]
      refine hP (fun o a c => ?_)
      by_cases e : o = n + 1 + i
      · rw [e]; exact z
      · exact hI o a (by omega)
    refine ⟨by rw [ew]; exact isO_t C.1 ht, fun z => by omega, fun _ w2 ew2 => ?_⟩
    rw [R.2.1] at ew2
    rw [ew2]
    refine ⟨isO_b C.1, C_hasO (by omega) (by omega) (fun g => ⟨fun z => absurd z (by decide), fun _ w3 ew3 => ?_⟩) (fun g => ⟨fun _ => nx (fun z => g z.1), fun z => absurd rfl z⟩)⟩
    rw [R.2.1] at ew3
    rw [ew3]
    exact ⟨isO_b C.1, C_hasO (by omega) (by omega) (fun g2 => ⟨fun z => absurd z (by decide), fun _ => h1 ⟨_, by omega, by omega, g, g2⟩⟩) (fun g2 => ⟨fun _ => nx (fun z => g2 z.2), fun z => absurd rfl z⟩)⟩
  · intro P hI
    show wX0_overridesBetween_4_b S m n (n + 1 + ((M0 - (n + 1)).toNat : Int)) (fun b0 => P b0) k
    unfold wX0_overridesBetween_4_b
    intro w ew
    rw [R.2.2] at ew
    have e16 : S w 16 = M0 := by rw [ew, R.tt ht]; exact C.2.2.2.2.1.1
    rw [e16]
    exact ⟨by rw [ew]; exact isO_t C.1 ht, fun _ => h0 (fun ⟨o, a, c, d⟩ => hI o a (by omega) d), fun z => by omega⟩
/-- off the row of overriding nothing has changed -/
def offO (S S' : St) (b : Int) : Prop := ∀ a j, ¬ a = b + 3 → S' a j = S a j
theorem CR.o {S S' : St} (C : CX E b D h t M0 M1) (R : CR S E b t) (o : offO S S' b) : CX S' b D h t M0 M1 ∧ CR S' S' b t := by
  have hb := C.1
  refine ⟨CX_E C (fun a j x y z => (o a j z).trans (R.1 a j x y)), fun _ _ _ _ => rfl, (o _ _ (by omega)).trans R.2.1, (o _ _ (by omega)).trans R.2.2⟩
theorem C_markOf {m : Int} {k : St → Prop} (C : CX E b D h t M0 M1) (R : CR S E b t) (K : KK S D h t M1) (l1 : isL S 1036 (frN D h t M0.toNat)) (l2 : S 1034 4 = (frN D h t M0.toNat).length) (hm : M0 ≤ m ∧ m < M1) (bm : bare D h m) (Z : ∀ n, 0 ≤ n → n < 128 → ¬ hasO S b m n) (Q : ∀ o n, 0 ≤ o → o < M0 → 0 ≤ n → n < M0 → (hasO S b o n ↔ ovr D h o n)) (hk : ∀ S', offO S S' b → (∀ m' n, 0 ≤ m' → m' < 121 → ¬ m' = m → 0 ≤ n → n < 128 → (hasO S' b m' n ↔ hasO S b m' n)) → OvS D h t M0 m (fun n => hasO S' b m n) → (∀ n, M0 ≤ n → n < 128 → ¬ hasO S' b m n) → k S') : wX0_markOverridesOf S m k := by
  have hM := C.2.2.2.1
  have ht := C.2.2.1
  have hb := C.1
  have hle := frN_len D h t M0.toNat
  have mem := frN_mem D h t M0.toNat
  have inc := frN_inc D h t M0.toNat
  obtain ⟨L, eL⟩ : ∃ L, L = frN D h t M0.toNat := ⟨_, rfl⟩
  rw [← eL] at l1 l2 hle mem inc
  have um := C.own hm
  unfold wX0_markOverridesOf wX0_markOverridesOf_0
  intro x ex
  rw [l2, w32_eq (by omega) (by omega)] at ex
  rw [ex]
  unfold wX0_markOverridesOf_7
  refine wlp_dn L.length (fun i S1 => offO S S1 b ∧ (∀ m' n, 0 ≤ m' → m' < 121 → ¬ m' = m → 0 ≤ n → n < 128 → (hasO S1 b m' n ↔ hasO S b m' n)) ∧ (∀ n, 0 ≤ n → n < 128 → hasO S1 b m n → ∃ j : Nat, i ≤ j ∧ j < L.length ∧ n = L.getD j 0) ∧ ∀ j : Nat, i ≤ j → j < L.length → (hasO S1 b m (L.getD j 0) ↔ seL D h t m (L.getD j 0) ∧ (rch D h t (L.getD j 0) ∨ ∃ o, L.getD j 0 < o ∧ o < M0 ∧ hasO S1 b m o ∧ ovr D h o (L.getD j 0)))) ?_ ?_ ⟨fun _ _ _ => rfl, fun _ _ _ _ _ _ _ => Iff.rfl, fun n a c z => absurd z (Z n a c), fun j a c => by omega⟩
  · intro P i S1 hi hI hP
    obtain ⟨I1, I2, I3, I4⟩ := hI
    obtain ⟨C1, R1⟩ := CR.o C R I1
    have K1 : KK S1 D h t M1 := fun q a c u r r0 r1 => (I1 _ _ (by omega)).trans (K q a c u r r0 r1)
    obtain ⟨n, en⟩ : ∃ n, n = L.getD i 0 := ⟨_, rfl⟩
    have hn := (mem n).mp (by rw [en]; exact getD_mem hi)
    have un : und D h t (D 28 (120 * h + n)) := Or.inr hn.2.2.1
    show wX0_markOverridesOf_7_b S1 m i (fun b0 b1 => P (b0, b1)) k
    unfold wX0_markOverridesOf_7_b
    have e36 : S1 1036 i = n := by rw [I1 _ _ (by omega), l1 i hi, en]
    rw [e36]
    have i1 : (i : Int) + -1 = i - 1 := by omega
    have keep : ¬ (seL D h t m n ∧ (rch D h t n ∨ ∃ o, n < o ∧ o < M0 ∧ hasO S1 b m o ∧ ovr D h o n)) → ∀ x : Int, x = w32 ((i : Int) + (-1)) → P (x, S1) := by
      intro z x ex
      rw [ex, w32_eq (by omega) (by omega), i1]
      refine hP S1 ⟨I1, I2, fun n' a c z2 => ?_, fun j a c => ?_⟩
      · obtain ⟨j, a1, a2, a3⟩ := I3 n' a c z2
        exact ⟨j, by omega, a2, a3⟩
      · by_cases e : j = i
        · rw [e, ← en]
          refine ⟨fun z2 => ?_, fun z2 => absurd z2 z⟩
          obtain ⟨j', a1, a2, a3⟩ := I3 n (by omega) (by omega) z2
          rw [en] at a3
          have := inc i j' (by omega) a2
          omega
        · exact I4 j (by omega) c
    have set : (seL D h t m n ∧ (rch D h t n ∨ ∃ o, n < o ∧ o < M0 ∧ hasO S1 b m o ∧ ovr D h o n)) → wX0_markOverridesOf_44 S1 m i n (fun b0 b1 => P (b0, b1)) k := by
      intro z
      unfold wX0_markOverridesOf_44
      intro w ew
      rw [R1.2.1] at ew
      rw [ew]
      refine ⟨isO_b hb, C_setO (by omega) (by omega) (fun S2 o2 b2 x ex => ?_)⟩
      rw [ex, w32_eq (by omega) (by omega), i1]
      refine hP S2 ⟨fun a j y => (o2 a j y).trans (I1 a j y), fun m' n' a c d e f => ?_, fun n' a c z2 => ?_, fun j a c => ?_⟩
      · rw [b2 m' n' a c e f, I2 m' n' a c d e f]
        exact ⟨fun w => w.elim id (fun v => absurd v.1 d), fun w => Or.inl w⟩
      · rcases (b2 m n' (by omega) (by omega) a c).mp z2 with w | w
        · obtain ⟨j, a1, a2, a3⟩ := I3 n' a c w
          exact ⟨j, by omega, a2, a3⟩
        · exact ⟨i, Nat.le_refl _, hi, by rw [w.2, en]⟩
      · have hj := (mem _).mp (getD_mem c)
        have same : ∀ o, n < o → o < M0 → (hasO S2 b m o ↔ hasO S1 b m o) := by
          intro o o1 o2
          rw [b2 m o (by omega) (by omega) (by omega) (by omega)]
          exact ⟨fun w => w.elim id (fun v => by omega), fun w => Or.inl w⟩
        by_cases e : j = i
        · rw [e, ← en, b2 m n (by omega) (by omega) (by omega) (by omega)]
          refine ⟨fun _ => ⟨z.1, z.2.elim Or.inl (fun ⟨o, a1, a2, a3, a4⟩ => Or.inr ⟨o, a1, a2, (same o a1 a2).mpr a3, a4⟩)⟩, fun _ => Or.inr ⟨rfl, rfl⟩⟩
        · have lt : n < L.getD j 0 := by rw [en]; exact inc i j (by omega) c
          rw [same _ lt (by omega), I4 j (by omega) c]
          refine ⟨fun w => ⟨w.1, w.2.elim Or.inl (fun ⟨o, a1, a2, a3, a4⟩ => Or.inr ⟨o, a1, a2, (same o (by omega) a2).mpr a3, a4⟩)⟩, fun w => ⟨w.1, w.2.elim Or.inl (fun ⟨o, a1, a2, a3, a4⟩ => Or.inr ⟨o, a1, a2, (same o (by omega) a2).mp a3, a4⟩)⟩⟩
    have brow : ∀ o, n < o → o < M0 → (hasO S1 b o n ↔ ovr D h o n) := fun o a c => by
      rw [I2 o n (by omega) (by omega) (by omega) (by omega) (by omega)]
      exact Q o n (by omega) c (by omega) (by omega)
    refine ⟨fun z => by omega, fun _ => ⟨by omega, fun y ey => ?_⟩⟩
    rw [ey]
    refine C_isAlike C1 R1 K1 (by omega) (by omega) um un (fun g => ⟨fun z => absurd z (by decide), fun _ => C_reach C1 R1 (by omega) (fun g2 => ⟨fun _ => set ⟨g, Or.inl g2⟩, fun z => absurd z (by decide)⟩) (fun g2 => ⟨fun z => absurd rfl z, fun _ => C_between C1 R1 (by omega) (by omega) (fun g3 => ⟨fun z => absurd z (by decide), fun _ => set ⟨g, Or.inr ?_⟩⟩) (fun g3 => ⟨fun _ => keep (fun z => ?_), fun z => absurd rfl z⟩)⟩)⟩) (fun g => ⟨fun _ => keep (fun z => g z.1), fun z => absurd rfl z⟩)
    · obtain ⟨o, a1, a2, a3, a4⟩ := g3
      exact ⟨o, a1, a2, a3, (brow o a1 a2).mp a4⟩
    · rcases z.2 with w | ⟨o, a1, a2, a3, a4⟩
      · exact g2 w
      · exact g3 ⟨o, a1, a2, a3, (brow o a1 a2).mpr a4⟩
  · intro P S1 hI
    obtain ⟨I1, I2, I3, I4⟩ := hI
    show wX0_markOverridesOf_7_b S1 m (-1) (fun b0 b1 => P (b0, b1)) k
    unfold wX0_markOverridesOf_7_b
    refine ⟨fun _ => hk S1 I1 I2 (fun n n0 n1 => ?_) (fun n n0 n1 z => ?_), fun z => absurd z (by decide)⟩
    · constructor
      · intro z
        obtain ⟨j, a1, a2, a3⟩ := I3 n n0 (by omega) z
        have hj := (mem n).mp (by rw [a3]; exact getD_mem a2)
        have := (I4 j (Nat.zero_le _) a2).mp (by rw [← a3]; exact z)
        rw [← a3] at this
        exact ⟨hj.2.2.1, bm, hj.2.2.2, this.1, this.2⟩
      · rintro ⟨a1, a2, a3, a4, a5⟩
        have hin := (mem n).mpr ⟨n0, by omega, a1, a3⟩
        obtain ⟨j, j1, j2⟩ := List.getElem_of_mem hin
        have ej : n = L.getD j 0 := by rw [← j2]; simp [j1]
        have := (I4 j (Nat.zero_le _) j1).mpr (by rw [← ej]; exact ⟨a4, a5⟩)
        rw [← ej] at this
        exact this
    · obtain ⟨j, a1, a2, a3⟩ := I3 n (by omega) n1 z
      have hj := (mem n).mp (by rw [a3]; exact getD_mem a2)
      omega
theorem C_markOverrides {k : St → Prop} (C : CX E b D h t M0 M1) (R : CR S E b t) (K : KK S D h t M1) (l1 : isL S 1036 (frN D h t M0.toNat)) (l2 : S 1034 4 = (frN D h t M0.toNat).length) (Z : ∀ m n, M0 ≤ m → m < 121 → 0 ≤ n → n < 128 → ¬ hasO S b m n) (Q : ∀ o n, 0 ≤ o → o < M0 → 0 ≤ n → n < M0 → (hasO S b o n ↔ ovr D h o n)) (hk : ∀ S', offO S S' b → (∀ m' n, 0 ≤ m' → m' < 121 → (m' < M0 ∨ M1 ≤ m') → 0 ≤ n → n < 128 → (hasO S' b m' n ↔ hasO S b m' n)) → (∀ m, M0 ≤ m → m < M1 → OvS D h t M0 m (fun n => hasO S' b m n) ∧ ∀ n, M0 ≤ n → n < 128 → ¬ hasO S' b m n) → k S') : wX0_markOverrides S k := by
  have hM := C.2.2.2.1
  have ht := C.2.2.1
  have hb := C.1
  unfold wX0_markOverrides wX0_markOverrides_0
  intro w ew
  rw [R.2.2] at ew
  refine ⟨by rw [ew]; exact isO_t hb ht, fun x ex => ?_⟩
  rw [ew, R.tt ht, C.2.2.2.2.1.1] at ex
  rw [ex]
  unfold wX0_markOverrides_8
  refine wlp_fr (lo := M0) (M1 - M0).toNat (fun i S1 => offO S S1 b ∧ (∀ m' n, 0 ≤ m' → m' < 121 → (m' < M0 ∨ M0 + i ≤ m') → 0 ≤ n → n < 128 → (hasO S1 b m' n ↔ hasO S b m' n)) ∧ ∀ m, M0 ≤ m → m < M0 + i → OvS D h t M0 m (fun n => hasO S1 b m n) ∧ ∀ n, M0 ≤ n → n < 128 → ¬ hasO S1 b m n) ?_ ?_ ⟨fun _ _ _ => rfl, fun _ _ _ _ _ _ _ => Iff.rfl, fun m a c => by omega⟩
  · intro P i S1 hi hI hP
    obtain ⟨I1, I2, I3⟩ := hI
    obtain ⟨C1, R1⟩ := CR.o C R I1
    have K1 : KK S1 D h t M1 := fun q a c u r r0 r1 => (I1 _ _ (by omega)).trans (K q a c u r r0 r1)
    have hm : M0 ≤ M0 + (i : Int) ∧ M0 + (i : Int) < M1 := by omega
    show wX0_markOverrides_8_b S1 (M0 + i) (fun b0 b1 => P (b0, b1)) k
    unfold wX0_markOverrides_8_b
    intro w2 ew2
    rw [R1.2.1] at ew2
    have e3 : S1 w2 3 = M1 := by rw [ew2]; exact C1.2.2.2.2.1.2
    rw [e3]
    refine ⟨by rw [ew2]; exact isO_b hb, fun z => by omega, fun _ w3 ew3 => ?_⟩
    rw [R1.2.1] at ew3
    refine ⟨by rw [ew3]; exact isO_b hb, by omega, fun v ev => ?_⟩
    have ev : v = me b (M0 + i) := by rw [ev, ew3]; rfl
    rw [ev]
    have zr : ∀ n, 0 ≤ n → n < 128 → ¬ hasO S1 b (M0 + i) n := fun n a c z => Z (M0 + i) n (by omega) (by omega) a c ((I2 (M0 + i) n (by omega) (by omega) (Or.inr (by omega)) a c).mp z)
    refine C_bare C1 R1 (by omega) (fun g => ⟨fun z => absurd z (by decide), fun _ => ?_⟩) (fun g => ⟨fun _ x ex => ?_, fun z => absurd rfl z⟩)
    · refine C_markOf C1 R1 K1 (l1.off (fun j => I1 _ _ (by omega))) ((I1 _ _ (by omega)).trans l2) hm g zr (fun o n a c d e => ?_) (fun S2 o2 p2 v2 z2 x ex => ?_)
      · rw [I2 o n a (by omega) (Or.inl c) d (by omega)]; exact Q o n a c d e
      · rw [ex, w32_eq (by omega) (by omega)]
        refine hP S2 ⟨fun a j y => (o2 a j y).trans (I1 a j y), fun m' n a c d e f => ?_, fun m a c => ?_⟩
        · rw [p2 m' n a c (by omega) e f]; exact I2 m' n a c (by omega) e f
        · by_cases e : m = M0 + i
          · rw [e]; exact ⟨v2, z2⟩
          · have old := I3 m a (by omega)
            have sm : ∀ n, 0 ≤ n → n < 128 → (hasO S2 b m n ↔ hasO S1 b m n) := fun n n0 n1 => p2 m n (by omega) (by omega) e n0 n1
            refine ⟨fun n n0 n1 => ?_, fun n n0 n1 z => old.2 n n0 n1 ((sm n (by omega) n1).mp z)⟩
            have o1 := old.1 n n0 n1
            dsimp only at o1 ⊢
            rw [sm n n0 (by omega), o1]
            refine ⟨fun w => ⟨w.1, w.2.1, w.2.2.1, w.2.2.2.1, w.2.2.2.2.elim Or.inl (fun ⟨o, a1, a2, a3, a4⟩ => Or.inr ⟨o, a1, a2, (sm o (by omega) (by omega)).mpr a3, a4⟩)⟩, fun w => ⟨w.1, w.2.1, w.2.2.1, w.2.2.2.1, w.2.2.2.2.elim Or.inl (fun ⟨o, a1, a2, a3, a4⟩ => Or.inr ⟨o, a1, a2, (sm o (by omega) (by omega)).mp a3, a4⟩)⟩⟩
    · rw [ex, w32_eq (by omega) (by omega)]
      refine hP S1 ⟨I1, fun m' n a c d e f => I2 m' n a c (by omega) e f, fun m a c => ?_⟩
      by_cases e : m = M0 + i
      · rw [e]
        exact ⟨fun n n0 n1 => ⟨fun z => absurd z (zr n n0 (by omega)), fun z => absurd z.2.1 g⟩, fun n n0 n1 => zr n (by omega) n1⟩
      · exact I3 m a (by omega)
  · intro P S1 hI
    obtain ⟨I1, I2, I3⟩ := hI
    obtain ⟨C1, R1⟩ := CR.o C R I1
    show wX0_markOverrides_8_b S1 (M0 + ((M1 - M0).toNat : Int)) (fun b0 b1 => P (b0, b1)) k
    unfold wX0_markOverrides_8_b
    intro w2 ew2
    rw [R1.2.1] at ew2
    have e3 : S1 w2 3 = M1 := by rw [ew2]; exact C1.2.2.2.2.1.2
    rw [e3]
    exact ⟨by rw [ew2]; exact isO_b hb, fun _ => hk S1 I1 (fun m' n a c d e f => I2 m' n a c (by omega) e f) (fun m a c => I3 m a (by omega)), fun z => by omega⟩
end Over
/-- the reference -/
def akin (D : St) (h t M1 a b : Int) : Prop := seL D h t a b ∧ ¬ D 30 (120 * h + a) = 0 ∧ ¬ D 30 (120 * h + b) = 0 ∧ (rch D h t b ∨ ∃ o, 0 ≤ o ∧ o < M1 ∧ ¬ o = b ∧ ovr D h a o ∧ ovr D h o b)
theorem R_isAkin {S D : St} {h t M1 a b : Int} {k : Int → Prop} (A : AgD S D) (hS : S 0 10 = h) (hh : half01 h) (ht : 0 ≤ t ∧ t < 24) (hM : D 4 h = M1 ∧ 0 ≤ M1 ∧ M1 ≤ 120) (ha : okM D h a) (hb : okM D h b) (z1 : ∀ o, 0 ≤ o → o < M1 → D 34 (120 * (120 * h + a) + o) = 0 ∨ D 34 (120 * (120 * h + a) + o) = 1) (z2 : ∀ o, 0 ≤ o → o < M1 → ovr D h a o → D 34 (120 * (120 * h + o) + b) = 0 ∨ D 34 (120 * (120 * h + o) + b) = 1) (h1 : akin D h t M1 a b → k 1) (h0 : ¬ akin D h t M1 a b → k 0) : wX8_isAkin S t a b k := by
  have hb01 : 0 ≤ h ∧ h ≤ 1 := by unfold half01 at hh; omega
  have ha1 := ha.1
  have hb1 := hb.1
  unfold wX8_isAkin wX8_isAkin_0
  refine R_isLike A hS hh ht ha hb (fun g => ⟨fun z => absurd z (by decide), fun _ => R_m hS hh (by omega) ?_⟩) (fun g => ⟨fun _ => h0 (fun w => g w.1), fun z => absurd rfl z⟩)
  rw [A 30 _ (by decide) (by decide)]
  refine ⟨by omega, fun z => h0 (fun w => w.2.1 z), fun za => R_m hS hh (by omega) ?_⟩
  rw [A 30 _ (by decide) (by decide)]
  refine ⟨by omega, fun zb => R_m hS hh (by omega) ?_, fun z => h0 (fun w => w.2.2.1 z)⟩
  rw [A 30 _ (by decide) (by decide)]
  refine ⟨by omega, fun z => h1 ⟨g, za, zb, Or.inl (Or.inl z)⟩, fun z => R_m hS hh (by omega) ?_⟩
  rw [A 28 _ (by decide) (by decide)]
  refine ⟨by omega, R_sam A hS hh ht hb.2.1 (fun s => ⟨fun z => absurd z (by decide), fun _ => h1 ⟨g, za, zb, Or.inl (Or.inr s)⟩⟩) (fun s => ⟨fun _ => ?_, fun z => absurd rfl z⟩)⟩
  have nr : ¬ rch D h t b := by
    rintro (w | w)
    · omega
    · exact s w
  unfold wX8_isAkin_78
  refine wlp_f0s M1.toNat (fun i fl => (fl = 1 ∧ ∃ o, 0 ≤ o ∧ o < M1 ∧ ¬ o = b ∧ ovr D h a o ∧ ovr D h o b) ∨ (fl = 0 ∧ ∀ o : Int, 0 ≤ o → o < (i : Int) → ¬ (¬ o = b ∧ ovr D h a o ∧ ovr D h o b))) ?_ ?_ (Or.inr ⟨rfl, fun o a c => by omega⟩)
  · intro P i fl hi hI hP
    show wX8_isAkin_78_b S a b fl i (fun b0 b1 => P (b0, b1)) k
    unfold wX8_isAkin_78_b
    rw [hS, A 4 _ (by decide) (by decide), hM.1]
    have hiM : (i : Int) < M1 := by clear hI hP; omega
    have i120 : 0 ≤ (i : Int) ∧ (i : Int) < 120 := by clear hI hP; omega
    have nx : fl = 0 → ¬ (¬ (i : Int) = b ∧ ovr D h a i ∧ ovr D h i b) → ∀ x : Int, x = w32 ((i : Int) + 1) → P (0, x) := by
      intro f0 z x ex
      rw [ex, w32_eq (by omega) (by omega)]
      rcases hI with w | w
      · omega
      · refine hP 0 (Or.inr ⟨rfl, fun o o0 o1 => ?_⟩)
        by_cases e : o = i
        · rw [e]; exact z
        · exact w.2 o o0 (by omega)
    refine ⟨by clear hI hP nx; omega, fun z => absurd hiM (by clear hI hP nx; omega), fun _ => ⟨fun z => ?_, fun z => ⟨fun e => nx z (fun w => w.1 e), fun e => R_isOver A hS hh ha1 i120 (z1 i i120.1 hiM) (fun g1 => ⟨fun z => absurd z (by decide), fun _ => R_isOver A hS hh i120 hb1 (z2 i i120.1 hiM g1) (fun g2 => ⟨fun z => absurd z (by decide), fun _ x ex => ?_⟩) (fun g2 => ⟨fun _ => nx z (fun w => g2 w.2.2), fun z => absurd rfl z⟩)⟩) (fun g1 => ⟨fun _ => nx z (fun w => g1 w.2.1), fun z => absurd rfl z⟩)⟩⟩⟩
    · rcases hI with w | w
      · exact ⟨Or.inr w.1, by rw [w.1]; exact h1 ⟨g, za, zb, Or.inr w.2⟩⟩
      · exact absurd w.1 z
    · rw [ex, w32_eq (by omega) (by omega)]
      exact hP 1 (Or.inl ⟨rfl, i, i120.1, hiM, e, g1, g2⟩)
  · intro P fl hI
    show wX8_isAkin_78_b S a b fl (M1.toNat : Int) (fun b0 b1 => P (b0, b1)) k
    unfold wX8_isAkin_78_b
    rw [hS, A 4 _ (by decide) (by decide), hM.1]
    refine ⟨by omega, fun _ => ?_, fun z => by omega⟩
    rcases hI with w | w
    · exact ⟨Or.inr w.1, by rw [w.1]; exact h1 ⟨g, za, zb, Or.inr w.2⟩⟩
    · have : ¬ akin D h t M1 a b → k fl := by rw [w.1]; exact h0
      refine ⟨Or.inl w.1, this (fun v => ?_)⟩
      rcases v.2.2.2 with u | ⟨o, a1, a2, a3⟩
      · exact nr u
      · exact w.2 o a1 (by omega) a3
def off34 (D S : St) : Prop := ∀ a j, ¬ a = 34 → S a j = D a j
theorem off34.eq {D S : St} (o : off34 D S) {a : Int} (ha : ¬ a = 34) : S a = D a := funext (fun j => o a j ha)
theorem off34_okM {D S : St} (o : off34 D S) {h m : Int} : okM S h m ↔ okM D h m := by
  unfold okM
  rw [o.eq (by decide), o.eq (by decide), o.eq (by decide)]
theorem off34_seL {D S : St} (o : off34 D S) {h t a b : Int} : seL S h t a b ↔ seL D h t a b := by
  unfold seL kSeen sVar
  rw [o.eq (a := 29) (by decide), o.eq (a := 32) (by decide), o.eq (a := 33) (by decide), o.eq (a := 28) (by decide), o.eq (a := 23) (by decide)]
theorem off34_rch {D S : St} (o : off34 D S) {h t b : Int} : rch S h t b ↔ rch D h t b := by
  unfold rch sam
  rw [o.eq (a := 30) (by decide), o.eq (a := 28) (by decide), o.eq (a := 9) (by decide), o.eq (a := 10) (by decide)]
/-- what the reference needs to find who overrides -/
def RX (D : St) (h t M0 M1 : Int) : Prop := half01 h ∧ (0 ≤ t ∧ t < 24) ∧ (0 ≤ M0 ∧ M0 ≤ M1 ∧ M1 ≤ 120) ∧ (D 24 (24 * h + t) = M0 ∧ D 24 (24 * h + t) + D 25 (24 * h + t) = M1 ∧ D 4 h = M1) ∧ (∀ m, 0 ≤ m → m < M1 → okM D h m) ∧ ∀ o n, 0 ≤ o → o < M0 → 0 ≤ n → n < 120 → D 34 (120 * (120 * h + o) + n) = 0 ∨ D 34 (120 * (120 * h + o) + n) = 1
/-- row a stands -/
def RW (D S : St) (h t M0 a : Int) : Prop := OvS D h t M0 a (fun n => ovr S h a n) ∧ (∀ n, M0 ≤ n → n < 120 → ¬ ovr S h a n) ∧ ∀ n, 0 ≤ n → n < 120 → S 34 (120 * (120 * h + a) + n) = 0 ∨ S 34 (120 * (120 * h + a) + n) = 1
theorem R_fo_row {D S : St} {h t M0 M1 a : Int} (X : RX D h t M0 M1) (hD : D 0 10 = h) (ha : M0 ≤ a ∧ a < M1) (o : off34 D S) (oc : ∀ c n, 0 ≤ c → c < M0 → 0 ≤ n → n < 120 → S 34 (120 * (120 * h + c) + n) = D 34 (120 * (120 * h + c) + n)) : ∃ S', (off34 D S' ∧ RW D S' h t M0 a ∧ ∀ j, ¬ (120 * (120 * h + a) ≤ j ∧ j < 120 * (120 * h + a) + 120) → S' 34 j = S 34 j) ∧ ∀ k : (Int → St → Prop) × (St → Prop), k.1 (a + 1) S' → wX8_findOver_32 S t M0 a 0 k.1 k.2 := by
  obtain ⟨hh, ht, hM, hF, hK, h34⟩ := X
  have hb01 : 0 ≤ h ∧ h ≤ 1 := by unfold half01 at hh; omega
  obtain ⟨B, hB⟩ : ∃ B, B = 120 * (120 * h + a) := ⟨_, rfl⟩
  have ix : ∀ n, 0 ≤ n → n < 120 → w32 (w32 (120 * (120 * h + a)) + n) = B + n := fun n n0 n1 => by
    rw [w32_eq (x := 120 * (120 * h + a)) (by omega) (by omega), w32_eq (by omega) (by omega), hB]
  -- downward
  have down : ∀ S1 : St, off34 D S1 → (∀ n, 0 ≤ n → n < 120 → S1 34 (B + n) = 0) → (∀ j, ¬ (B ≤ j ∧ j < B + 120) → S1 34 j = S 34 j) → ∃ S', (off34 D S' ∧ RW D S' h t M0 a ∧ ∀ j, ¬ (B ≤ j ∧ j < B + 120) → S' 34 j = S 34 j) ∧ ∀ k : (Int → St → Prop) × (St → Prop), k.1 (a + 1) S' → wX8_findOver_67 S1 t M0 a (M0 - 1) k.1 k.2 := by
    intro S1 o1 z1 r1
    unfold wX8_findOver_67
    refine run_gen (α := Int × St) (β := St) (B := fun P (k : (Int → St → Prop) × (St → Prop)) x => wX8_findOver_67_b x.2 t M0 a x.1 k.1 (fun b0 b1 => P (b0, b1)) k.2)
      (fun x => ∃ i : Nat, (i : Int) ≤ M0 ∧ x.1 = (i : Int) - 1 ∧ off34 D x.2 ∧ (∀ j, ¬ (B ≤ j ∧ j < B + 120) → x.2 34 j = S 34 j) ∧ (∀ n, 0 ≤ n → n < 120 → (n < (i : Int) ∨ M0 ≤ n) → x.2 34 (B + n) = 0) ∧ (∀ n, 0 ≤ n → n < 120 → x.2 34 (B + n) = 0 ∨ x.2 34 (B + n) = 1) ∧ ∀ n, (i : Int) ≤ n → n < M0 → (ovr x.2 h a n ↔ abv D h t n ∧ bare D h a ∧ bare D h n ∧ seL D h t a n ∧ (rch D h t n ∨ ∃ o, n < o ∧ o < M0 ∧ ovr x.2 h a o ∧ ovr D h o n))) (fun x => (x.1 + 1).toNat) (fun S' => off34 D S' ∧ RW D S' h t M0 a ∧ ∀ j, ¬ (B ≤ j ∧ j < B + 120) → S' 34 j = S 34 j) (fun k S' => k.1 (a + 1) S') ?_ (a := (M0 - 1, S1)) ⟨M0.toNat, by omega, by dsimp only; omega, o1, r1, fun n n0 n1 _ => z1 n n0 n1, fun n n0 n1 => Or.inl (z1 n n0 n1), fun n n0 n1 => by omega⟩
    intro x ⟨i, hi, ei, I1, I2, I3, I4, I5⟩
    obtain ⟨y, S2⟩ := x
    dsimp only at ei I1 I2 I3 I4 I5
    subst ei
    cases i with
    | zero =>
      right
      refine ⟨S2, ⟨I1, ⟨fun n n0 n1 => I5 n (by omega) n1, fun n n0 n1 z => ?_, fun n n0 n1 => ?_⟩, I2⟩, fun P k hk => ?_⟩
      · unfold ovr at z; rw [← hB] at z; exact z (I3 n (by omega) n1 (Or.inr n0))
      · rw [← hB]; exact I4 n n0 n1
      · show wX8_findOver_67_b S2 t M0 a (((0 : Nat) : Int) - 1) k.1 (fun b0 b1 => P (b0, b1)) k.2
        unfold wX8_findOver_67_b
        refine ⟨fun _ x ex => ?_, fun z => by omega⟩
        rw [ex, w32_eq (by omega) (by omega)]
        exact hk
    | succ i =>
      left
      have hS2 : S2 0 10 = h := (I1 _ _ (by decide)).trans hD
      have ei2 : ((i + 1 : Nat) : Int) - 1 = i := by omega
      rw [ei2]
      have okb := hK i (by omega) (by omega)
      have oka := hK a (by omega) (by omega)
      -- the cell's new value
      have cond : (akin S2 h t M1 a i ∧ abv D h t i ∧ ¬ D 31 (120 * h + a) = 1 ∧ ¬ D 31 (120 * h + i) = 1) ↔ (abv D h t i ∧ bare D h a ∧ bare D h i ∧ seL D h t a i ∧ (rch D h t i ∨ ∃ o, (i : Int) < o ∧ o < M0 ∧ ovr S2 h a o ∧ ovr D h o i)) := by
        unfold akin bare
        rw [off34_seL I1, off34_rch I1, I1.eq (a := 30) (by decide)]
        have ex : (∃ o, 0 ≤ o ∧ o < M1 ∧ ¬ o = (i : Int) ∧ ovr S2 h a o ∧ ovr S2 h o i) ↔ (∃ o, (i : Int) < o ∧ o < M0 ∧ ovr S2 h a o ∧ ovr D h o i) := by
          have row : ∀ o, 0 ≤ o → o < M0 → (ovr S2 h o i ↔ ovr D h o i) := by
            intro o o0 o1
            unfold ovr
            rw [I2 _ (by omega), oc o i o0 o1 (by omega) (by omega)]
          constructor
          · rintro ⟨o, a1, a2, a3, a4, a5⟩
            have lt : (i : Int) < o ∧ o < M0 := by
              by_cases c : (i : Int) < o ∧ o < M0
              · exact c
              · exfalso
                unfold ovr at a4
                rw [← hB] at a4
                exact a4 (I3 o a1 (by omega) (by omega))
            exact ⟨o, lt.1, lt.2, a4, (row o a1 lt.2).mp a5⟩
          · rintro ⟨o, a1, a2, a3, a4⟩
            exact ⟨o, by omega, by omega, by omega, a3, (row o (by omega) a2).mpr a4⟩
        rw [ex]
        constructor
        · rintro ⟨⟨b1, b2, b3, b4⟩, b5, b6, b7⟩
          exact ⟨b5, ⟨b6, b2⟩, ⟨b7, b3⟩, b1, b4⟩
        · rintro ⟨b5, ⟨b6, b2⟩, ⟨b7, b3⟩, b1, b4⟩
          exact ⟨⟨b1, b2, b3, b4⟩, b5, b6, b7⟩
      obtain ⟨v, hv⟩ : ∃ v : Int, (v = 1 ∧ (akin S2 h t M1 a i ∧ abv D h t i ∧ ¬ D 31 (120 * h + a) = 1 ∧ ¬ D 31 (120 * h + i) = 1)) ∨ (v = 0 ∧ ¬ (akin S2 h t M1 a i ∧ abv D h t i ∧ ¬ D 31 (120 * h + a) = 1 ∧ ¬ D 31 (120 * h + i) = 1)) := by
        by_cases c : akin S2 h t M1 a i ∧ abv D h t i ∧ ¬ D 31 (120 * h + a) = 1 ∧ ¬ D 31 (120 * h + i) = 1
        · exact ⟨1, Or.inl ⟨rfl, c⟩⟩
        · exact ⟨0, Or.inr ⟨rfl, c⟩⟩
      have v01 : v = 0 ∨ v = 1 := by rcases hv with w | w; exact Or.inr w.1; exact Or.inl w.1
      obtain ⟨T, hT⟩ : ∃ T, T = up S2 34 (B + i) v := ⟨_, rfl⟩
      have tN : ∀ n, ¬ n = (i : Int) → T 34 (B + n) = S2 34 (B + n) := fun n hn => by rw [hT, up_n _ (by omega)]
      have tO : ∀ n, ¬ n = (i : Int) → (ovr T h a n ↔ ovr S2 h a n) := fun n hn => by
        unfold ovr
        rw [← hB, tN n hn]
      refine ⟨((i : Int) - 1, T), ⟨i, by omega, rfl, fun c j z => by dsimp only; rw [hT, up_n _ (fun g => z g.1)]; exact I1 c j z, fun j z => ?_, fun n n0 n1 z => ?_, fun n n0 n1 => ?_, fun n n0 n1 => ?_⟩, by dsimp only; omega, fun P k hP => ?_⟩
      · dsimp only; rw [hT, up_n _ (by omega)]; exact I2 j z
      · dsimp only; rw [tN n (by omega)]; exact I3 n n0 n1 (by omega)
      · dsimp only
        by_cases e : n = i
        · rw [e, hT, up_s]; exact v01
        · rw [tN n e]; exact I4 n n0 n1
      · dsimp only
        by_cases e : n = i
        · subst e
          have ov : ovr T h a i ↔ v = 1 := by
            unfold ovr
            rw [← hB, hT, up_s]
            omega
          have so : ∀ o, (i : Int) < o → (ovr T h a o ↔ ovr S2 h a o) := fun o ho => tO o (by omega)
          rw [ov]
          have e2 : v = 1 ↔ (akin S2 h t M1 a i ∧ abv D h t i ∧ ¬ D 31 (120 * h + a) = 1 ∧ ¬ D 31 (120 * h + i) = 1) := by
            rcases hv with w | w
            · exact ⟨fun _ => w.2, fun _ => w.1⟩
            · exact ⟨fun z => by omega, fun z => absurd z w.2⟩
          rw [e2, cond]
          refine ⟨fun w => ⟨w.1, w.2.1, w.2.2.1, w.2.2.2.1, w.2.2.2.2.elim Or.inl (fun ⟨o, a1, a2, a3, a4⟩ => Or.inr ⟨o, a1, a2, (so o a1).mpr a3, a4⟩)⟩, fun w => ⟨w.1, w.2.1, w.2.2.1, w.2.2.2.1, w.2.2.2.2.elim Or.inl (fun ⟨o, a1, a2, a3, a4⟩ => Or.inr ⟨o, a1, a2, (so o a1).mp a3, a4⟩)⟩⟩
        · rw [tO n e, I5 n (by omega) n1]
          have so : ∀ o, n < o → (ovr T h a o ↔ ovr S2 h a o) := fun o ho => tO o (by omega)
          refine ⟨fun w => ⟨w.1, w.2.1, w.2.2.1, w.2.2.2.1, w.2.2.2.2.elim Or.inl (fun ⟨o, a1, a2, a3, a4⟩ => Or.inr ⟨o, a1, a2, (so o a1).mpr a3, a4⟩)⟩, fun w => ⟨w.1, w.2.1, w.2.2.1, w.2.2.2.1, w.2.2.2.2.elim Or.inl (fun ⟨o, a1, a2, a3, a4⟩ => Or.inr ⟨o, a1, a2, (so o a1).mp a3, a4⟩)⟩⟩
      · show wX8_findOver_67_b S2 t M0 a i k.1 (fun b0 b1 => P (b0, b1)) k.2
        unfold wX8_findOver_67_b
        have i1 : (i : Int) + -1 = i - 1 := by omega
        have set : ∀ v' : Int, v' = v → wX8_findOver_172 S2 t M0 a i (B + i) v' k.1 (fun b0 b1 => P (b0, b1)) k.2 := by
          intro v' ev
          unfold wX8_findOver_172
          refine ⟨by omega, by rw [ev]; exact v01, fun U eU x ex => ?_⟩
          rw [ex, w32_eq (by omega) (by omega), i1, eU, ev, ← hT]
          exact hP
        have zero : ¬ (abv D h t i ∧ ¬ D 31 (120 * h + a) = 1 ∧ ¬ D 31 (120 * h + i) = 1) → wX8_findOver_133 S2 t M0 a i k.1 (fun b0 b1 => P (b0, b1)) k.2 := by
          intro z
          unfold wX8_findOver_133 wX8_findOver_134
          refine R_m hS2 hh (by omega) ?_
          rw [ix i (by omega) (by omega)]
          refine ⟨fun _ => ?_, fun w => absurd rfl w⟩
          unfold wX8_findOver_171
          refine set 0 ?_
          rcases hv with w | w
          · exact absurd w.2.2 z
          · exact w.1.symm
        have A2 : AgD S2 S2 := fun _ _ _ _ => rfl
        have o28 : S2 28 = D 28 := I1.eq (by decide)
        have o22 : S2 22 = D 22 := I1.eq (by decide)
        have o31 : S2 31 = D 31 := I1.eq (by decide)
        have hD28 := okb.2.1
        refine ⟨fun z => by omega, fun _ => R_t hS2 hh ht (R_m hS2 hh (by omega) ?_)⟩
        rw [o28, o22, o31, w32_eq (x := 24 * (24 * h + t)) (by omega) (by omega), w32_eq (by omega) (by omega)]
        refine ⟨by omega, by omega, fun z => zero (fun w => w.1 z), fun zab => R_m hS2 hh (by omega) ⟨by omega, fun z => zero (fun w => w.2.1 z), fun z1 => R_m hS2 hh (by omega) ⟨by omega, fun z => zero (fun w => w.2.2 z), fun z2 => ?_⟩⟩⟩
        unfold wX8_findOver_134
        refine R_m hS2 hh (by omega) ?_
        rw [ix i (by omega) (by omega)]
        refine ⟨fun z => absurd z (by decide), fun _ => R_isAkin (M1 := M1) A2 hS2 hh ht ⟨(I1 4 h (by decide)).trans hF.2.2, by omega, by omega⟩ ((off34_okM I1).mpr oka) ((off34_okM I1).mpr okb) (fun o o0 o1 => by rw [← hB]; exact I4 o o0 (by omega)) (fun o o0 o1 z => ?_) (fun g => ⟨fun z => absurd z (by decide), fun _ => set 1 ?_⟩) (fun g => ⟨fun _ => ?_, fun z => absurd rfl z⟩)⟩
        · have lt : o < M0 := by
            by_cases c : o < M0
            · exact c
            · exfalso
              unfold ovr at z
              rw [← hB] at z
              exact z (I3 o o0 (by omega) (Or.inr (by omega)))
          rw [I2 _ (by omega), oc o i o0 lt (by omega) (by omega)]
          exact h34 o i o0 lt (by omega) (by omega)
        · rcases hv with w | w
          · exact w.1.symm
          · exact absurd ⟨g, zab, z1, z2⟩ w.2
        · unfold wX8_findOver_171
          refine set 0 ?_
          rcases hv with w | w
          · exact absurd w.2.1 g
          · exact w.1.symm
  -- the row is cleared first
  unfold wX8_findOver_32
  have cl := run_gen (α := Int × St) (β := St) (B := fun P (k : (Int → St → Prop) × (St → Prop)) x => wX8_findOver_32_b x.2 t M0 a x.1 k.1 (fun b0 b1 => P (b0, b1)) k.2)
    (fun x => ∃ i : Nat, i ≤ 120 ∧ x.1 = i ∧ off34 D x.2 ∧ (∀ j, ¬ (B ≤ j ∧ j < B + 120) → x.2 34 j = S 34 j) ∧ ∀ n : Int, 0 ≤ n → n < (i : Int) → x.2 34 (B + n) = 0) (fun x => (120 - x.1).toNat) (fun S' => off34 D S' ∧ RW D S' h t M0 a ∧ ∀ j, ¬ (B ≤ j ∧ j < B + 120) → S' 34 j = S 34 j) (fun k S' => k.1 (a + 1) S') ?_ (a := (0, S)) ⟨0, by omega, rfl, o, fun _ _ => rfl, fun n n0 n1 => by omega⟩
  · rw [← hB]
    exact cl
  intro x ⟨i, hi, ei, I1, I2, I3⟩
  obtain ⟨y, S2⟩ := x
  dsimp only at ei I1 I2 I3
  subst ei
  have hS2 : S2 0 10 = h := (I1 _ _ (by decide)).trans hD
  by_cases c : i = 120
  · right
    subst c
    obtain ⟨S', q1, q2⟩ := down S2 I1 (fun n n0 n1 => I3 n n0 (by omega)) I2
    refine ⟨S', q1, fun P k hk => ?_⟩
    show wX8_findOver_32_b S2 t M0 a ((120 : Nat) : Int) k.1 (fun b0 b1 => P (b0, b1)) k.2
    unfold wX8_findOver_32_b
    refine ⟨fun _ x ex => ?_, fun z => absurd z (by decide)⟩
    rw [w32_eq (by omega) (by omega)] at ex
    rw [ex]
    exact q2 k hk
  · left
    refine ⟨((i : Int) + 1, up S2 34 (B + i) 0), ⟨i + 1, by omega, by dsimp only; omega, fun c j z => by dsimp only; rw [up_n _ (fun g => z g.1)]; exact I1 c j z, fun j z => ?_, fun n n0 n1 => ?_⟩, by dsimp only; omega, fun P k hP => ?_⟩
    · dsimp only; rw [up_n _ (by omega)]; exact I2 j z
    · dsimp only
      by_cases e : n = i
      · rw [e, up_s]
      · rw [up_n _ (by omega)]; exact I3 n n0 (by omega)
    · show wX8_findOver_32_b S2 t M0 a i k.1 (fun b0 b1 => P (b0, b1)) k.2
      unfold wX8_findOver_32_b
      refine ⟨fun z => by omega, fun _ => R_m hS2 hh (by omega) ?_⟩
      rw [ix i (by omega) (by omega)]
      refine ⟨by omega, fun U eU x ex => ?_⟩
      rw [ex, w32_eq (by omega) (by omega), eU]
      exact hP
theorem R_findOver {D : St} {h t M0 M1 : Int} (X : RX D h t M0 M1) (hD : D 0 10 = h) : ∃ S', (off34 D S' ∧ (∀ a, M0 ≤ a → a < M1 → RW D S' h t M0 a) ∧ ∀ j, ¬ (120 * (120 * h + M0) ≤ j ∧ j < 120 * (120 * h + M1)) → S' 34 j = D 34 j) ∧ ∀ k : St → Prop, k S' → wX8_findOver D t k := by
  have X' := X
  obtain ⟨hh, ht, hM, hF, hK, h34⟩ := X
  have hb01 : 0 ≤ h ∧ h ≤ 1 := by unfold half01 at hh; omega
  have main : ∃ S', (off34 D S' ∧ (∀ a, M0 ≤ a → a < M1 → RW D S' h t M0 a) ∧ ∀ j, ¬ (120 * (120 * h + M0) ≤ j ∧ j < 120 * (120 * h + M1)) → S' 34 j = D 34 j) ∧ ∀ k : St → Prop, k S' → wX8_findOver_13 D t M0 M0 k := by
    unfold wX8_findOver_13
    refine run_gen (α := Int × St) (β := St) (B := fun P (k : St → Prop) x => wX8_findOver_13_b x.2 t M0 x.1 (fun b0 b1 => P (b0, b1)) k)
      (fun x => ∃ i : Nat, M0 + (i : Int) ≤ M1 ∧ x.1 = M0 + i ∧ off34 D x.2 ∧ (∀ a, M0 ≤ a → a < M0 + (i : Int) → RW D x.2 h t M0 a) ∧ ∀ j, ¬ (120 * (120 * h + M0) ≤ j ∧ j < 120 * (120 * h + (M0 + (i : Int)))) → x.2 34 j = D 34 j) (fun x => (M1 - x.1).toNat) (fun S' => off34 D S' ∧ (∀ a, M0 ≤ a → a < M1 → RW D S' h t M0 a) ∧ ∀ j, ¬ (120 * (120 * h + M0) ≤ j ∧ j < 120 * (120 * h + M1)) → S' 34 j = D 34 j) (fun k S' => k S') ?_ (a := (M0, D)) ⟨0, by omega, by simp, fun _ _ _ => rfl, fun a b c => by omega, fun _ _ => rfl⟩
    intro x ⟨i, hi, ei, I1, I2, I3⟩
    obtain ⟨y, S2⟩ := x
    dsimp only at ei I1 I2 I3
    subst ei
    have hS2 : S2 0 10 = h := (I1 _ _ (by decide)).trans hD
    have e25 : w32 (M0 + S2 25 (24 * h + t)) = M1 := by rw [I1 25 _ (by decide), w32_eq (by omega) (by omega)]; omega
    by_cases c : M0 + (i : Int) = M1
    · right
      refine ⟨S2, ⟨I1, fun a a0 a1 => I2 a a0 (by omega), fun j z => I3 j (by omega)⟩, fun P k hk => ?_⟩
      show wX8_findOver_13_b S2 t M0 (M0 + i) (fun b0 b1 => P (b0, b1)) k
      unfold wX8_findOver_13_b
      refine R_t hS2 hh ht ?_
      rw [e25]
      exact ⟨by omega, fun _ => hk, fun z => by omega⟩
    · left
      obtain ⟨S', ⟨q1, q2, q3⟩, q4⟩ := R_fo_row X' hD (a := M0 + i) ⟨by omega, by omega⟩ I1 (fun c n c0 c1 n0 n1 => I3 _ (by omega))
      refine ⟨(M0 + (i : Int) + 1, S'), ⟨i + 1, by omega, by dsimp only; omega, q1, fun a a0 a1 => ?_, fun j z => ?_⟩, by dsimp only; omega, fun P k hP => ?_⟩
      · dsimp only
        by_cases e : a = M0 + i
        · rw [e]; exact q2
        · obtain ⟨r1, r2, r3⟩ := I2 a a0 (by omega)
          have so : ∀ n, 0 ≤ n → n < 120 → S' 34 (120 * (120 * h + a) + n) = S2 34 (120 * (120 * h + a) + n) := fun n n0 n1 => q3 _ (by omega)
          have sov : ∀ n, 0 ≤ n → n < 120 → (ovr S' h a n ↔ ovr S2 h a n) := fun n n0 n1 => by unfold ovr; rw [so n n0 n1]
          refine ⟨fun n n0 n1 => ?_, fun n n0 n1 z => r2 n n0 n1 ((sov n (by omega) n1).mp z), fun n n0 n1 => by rw [so n n0 n1]; exact r3 n n0 n1⟩
          have o1 := r1 n n0 n1
          dsimp only at o1 ⊢
          rw [sov n n0 (by omega), o1]
          refine ⟨fun w => ⟨w.1, w.2.1, w.2.2.1, w.2.2.2.1, w.2.2.2.2.elim Or.inl (fun ⟨o, a1, a2, a3, a4⟩ => Or.inr ⟨o, a1, a2, (sov o (by omega) (by omega)).mpr a3, a4⟩)⟩, fun w => ⟨w.1, w.2.1, w.2.2.1, w.2.2.2.1, w.2.2.2.2.elim Or.inl (fun ⟨o, a1, a2, a3, a4⟩ => Or.inr ⟨o, a1, a2, (sov o (by omega) (by omega)).mp a3, a4⟩)⟩⟩
      · dsimp only; rw [q3 j (by omega)]; exact I3 j (by omega)
      · show wX8_findOver_13_b S2 t M0 (M0 + i) (fun b0 b1 => P (b0, b1)) k
        unfold wX8_findOver_13_b
        refine R_t hS2 hh ht ?_
        rw [e25]
        exact ⟨by omega, fun z => by omega, fun _ => q4 (fun b0 b1 => P (b0, b1), k) hP⟩
  obtain ⟨S', q1, q2⟩ := main
  refine ⟨S', q1, fun k hk => ?_⟩
  unfold wX8_findOver wX8_findOver_0
  refine R_t hD hh ht ⟨by omega, fun x ex => ?_⟩
  rw [hF.1] at ex
  rw [ex]
  exact q2 k hk
