/-! pure: reading: how long a PACK item is -/
section Len
variable {T te so va pl : Int → Int} {n N i j q : Int}
theorem by_lsb : ∀ b : Nat, b < 128 → ∀ m : Nat, m < 64 → 8 ≤ m → (i64 (b : Int)).toBitVec.getLsbD m = false := by decide +kernel
theorem sh8 : ((i32 8).toInt64 &&& 63).toBitVec.smod 64 = 8#64 := by decide +kernel
theorem va_lsb (L : Nat) (hT : ∀ j, q ≤ j → j < q + L → 0 ≤ T j ∧ T j < 128) (k : Nat) : k ≤ L → ∀ m : Nat, 8 * k ≤ m → m < 64 → (i64 (vaN T q k)).toBitVec.getLsbD m = false := by
  induction k with
  | zero =>
    intro _ m _ _
    show (i64 0).toBitVec.getLsbD m = false
    have : i64 0 = 0 := rfl
    rw [this]
    simp
  | succ k ih =>
    intro kL m m0 m1
    have e1 : i64 (vaN T q (k + 1)) = i64 (shl64 (vaN T q k) 8) ||| i64 (T (q + k)) := by
      show i64 (or64 (shl64 (vaN T q k) 8) (T (q + k))) = _
      unfold or64; rw [i64_of]
    have e2 : (i64 (shl64 (vaN T q k) 8)).toBitVec = (i64 (vaN T q k)).toBitVec <<< 8 := by
      unfold shl64
      rw [i64_of]
      show (i64 (vaN T q k)).toBitVec <<< (((i32 8).toInt64 &&& 63).toBitVec.smod 64) = _
      rw [sh8]
      rfl
    have e3 : (i64 (shl64 (vaN T q k) 8) ||| i64 (T (q + k))).toBitVec = (i64 (shl64 (vaN T q k) 8)).toBitVec ||| (i64 (T (q + k))).toBitVec := rfl
    have hb := hT (q + k) (by omega) (by omega)
    have e4 := by_lsb (T (q + k)).toNat (by omega) m m1 (by omega)
    rw [show ((T (q + k)).toNat : Int) = T (q + k) by omega] at e4
    rw [e1, e3, BitVec.getLsbD_or, e4, e2, BitVec.getLsbD_shiftLeft, ih (by omega) (m - 8) (by omega) (by omega)]
    simp
theorem ws_pack {v : Int} (k : Nat) : wsN v k = 10 → v = 0x7061636b := by
  induction k with
  | zero => intro z; exact absurd z (by show ¬ (2 : Int) = 10; decide)
  | succ k ih =>
    simp only [wsN]
    intro z
    by_cases c : wsN v k = 2
    · rw [if_pos c] at z
      by_cases c2 : wv.getD k 0 = v
      · rw [if_pos c2] at z
        have : k = 0 := by omega
        rw [this] at c2
        exact c2.symm
      · rw [if_neg c2] at z; exact absurd z (by decide)
    · rw [if_neg c] at z; exact ih z
theorem tk_step (K : Tks T n N te so va pl) (hi : 0 ≤ i ∧ i < N) : te i ≤ te (i + 1) ∧ te (i + 1) ≤ n := by
  obtain ⟨⟨a1, a2, _, a3⟩, _, _⟩ := K.2.2.1 i hi.1 hi.2
  rcases a3 with w | w | w | w | w
  · omega
  · omega
  · omega
  · omega
  · omega
theorem te_mono (K : Tks T n N te so va pl) (i0 : 0 ≤ i) (d : Nat) : i + d ≤ N → te i ≤ te (i + d) := by
  induction d with
  | zero => intro _; simp
  | succ d ih =>
    intro h
    have a := ih (by omega)
    have b := tk_step K (i := i + d) ⟨by omega, by omega⟩
    rw [show i + ((d + 1 : Nat) : Int) = i + d + 1 by omega]
    omega
theorem te_le (K : Tks T n N te so va pl) (i0 : 0 ≤ i) (ij : i ≤ j) (jN : j ≤ N) : te i ≤ te j := by
  have := te_mono K i0 (j - i).toNat (by omega)
  rw [show i + ((j - i).toNat : Int) = j by omega] at this
  exact this
theorem lt128 {c : Int} (h : isLt c ∨ isDg c) : 0 ≤ c ∧ c < 128 := by
  unfold isLt isDg at h
  omega
/-- the word pack has four letters -/
theorem pack4 (K : Tks T n N te so va pl) (hi : 0 ≤ i ∧ i < N) (si : so i = 200) : te i + 4 ≤ te (i + 1) ∧ te (i + 1) ≤ n ∧ (te (i + 1) < n → ¬ (isLt (T (te (i + 1))) ∨ isDg (T (te (i + 1))))) := by
  obtain ⟨⟨a1, a2, _, a3⟩, _, _⟩ := K.2.2.1 i hi.1 hi.2
  rw [si, show rsrt 200 = 10 by decide] at a3
  rcases a3 with w | w | w | w | w
  · exact absurd w.2.1 (by decide)
  · obtain ⟨w1, w2, w3, w4, w5, w6, w7⟩ := w
    have w8 : wsN (vaN T (pl i) (te (i + 1) - pl i).toNat) 14 = 10 := by
      split at w6
      · exact absurd w6 (by decide)
      · exact w6.symm
    have v := ws_pack 14 w8
    refine ⟨?_, w3.2, w5⟩
    by_cases c : te (i + 1) - pl i ≤ 3
    · exfalso
      have l := va_lsb (T := T) (q := pl i) (te (i + 1) - pl i).toNat (fun j j0 j1 => lt128 (w4 j j0 (by omega))) (te (i + 1) - pl i).toNat (Nat.le_refl _) 28 (by omega) (by decide)
      rw [v] at l
      exact absurd l (by decide +kernel)
    · omega
  · exact absurd w.2.2.2.1 (by decide)
  · have := w.2.1
    have e := w.2.2.2
    unfold isSg at this
    omega
  · exact absurd w.2.2.2.2.2.2 (by decide)
theorem name2 (K : Tks T n N te so va pl) (hi : 0 ≤ i ∧ i < N) (si : so i = 2) (g : te i < n → ¬ (isLt (T (te i)) ∨ isDg (T (te i)))) : te i + 2 ≤ te (i + 1) := by
  obtain ⟨⟨a1, a2, _, a3⟩, _, _⟩ := K.2.2.1 i hi.1 hi.2
  rw [si, show rsrt 2 = 2 by decide] at a3
  rcases a3 with w | w | w | w | w
  · exact absurd w.2.1 (by decide)
  · by_cases c : te i = pl i
    · exact absurd (Or.inl (by rw [c]; exact w.2.1)) (g (by rw [c]; exact w.1))
    · have := w.2.2.1; omega
  · exact absurd w.2.2.2.1 (by decide)
  · have := w.2.1
    have e := w.2.2.2
    unfold isSg at this
    omega
  · exact absurd w.2.2.2.2.2.2 (by decide)
theorem sign1 (K : Tks T n N te so va pl) (hi : 0 ≤ i ∧ i < N) (si : so i = 59) : te i + 1 ≤ te (i + 1) := by
  obtain ⟨⟨a1, a2, _, a3⟩, _, _⟩ := K.2.2.1 i hi.1 hi.2
  rw [si, show rsrt 59 = 59 by decide] at a3
  rcases a3 with w | w | w | w | w
  · exact absurd w.2.1 (by decide)
  · have := w.2.2.1; omega
  · omega
  · omega
  · omega
theorem pack7 (K : Tks T n N te so va pl) (hi : 0 ≤ i ∧ i + 2 < N) (s0 : so i = 200) (s1 : so (i + 1) = 2) (s2 : so (i + 2) = 59) : te i + 7 ≤ te (i + 3) := by
  have a := pack4 K (i := i) ⟨hi.1, by omega⟩ s0
  have b := name2 K (i := i + 1) ⟨by omega, by omega⟩ s1 a.2.2
  have c := sign1 K (i := i + 2) ⟨by omega, by omega⟩ s2
  rw [show i + 1 + 1 = i + 2 by omega] at b
  rw [show i + 2 + 1 = i + 3 by omega] at c
  omega
end Len
