/-! pure: helpers, and the calls of the tape -/
theorem w32_eq {x : Int} (h1 : -2147483648 ≤ x) (h2 : x < 2147483648) : w32 x = x := w32_id ⟨h1, h2⟩
theorem R_in (S : St) {v lo hi : Int} {k : Int → Prop} (h : k (if lo ≤ v ∧ v ≤ hi then 1 else 0)) : wX8_in S v lo hi k := by
  unfold wX8_in wX8_in_0
  refine ⟨fun c => ?_, fun c => ⟨fun d => ?_, fun d => ?_⟩⟩
  · rwa [if_neg (by omega)] at h
  · rwa [if_neg (by omega)] at h
  · rwa [if_pos ⟨c, d⟩] at h
/-- the tapes: as many bytes, and the same -/
def SimT (SC SR : St) : Prop := SC 0 1 = SR 0 1 ∧ (0 ≤ SR 0 1 ∧ SR 0 1 ≤ 4000) ∧ ∀ j, 0 ≤ j → j < SR 0 1 → SC 1 j = SR 1 j
/-- off the tape and its length nothing has changed -/
def offT (S S' : St) : Prop := ∀ a j, ¬ a = 1 → ¬ (a = 0 ∧ j = 1) → S' a j = S a j
theorem offT.refl (S : St) : offT S S := fun _ _ _ _ => rfl
theorem offT.trans {S S1 S2 : St} (h : offT S S1) (g : offT S1 S2) : offT S S2 := fun a j x y => (g a j x y).trans (h a j x y)
theorem offT.up1 {S : St} {j v : Int} : offT S (up S 1 j v) := fun a i x _ => up_n S (fun h => x h.1)
theorem offT.up0 {S : St} {v : Int} : offT S (up S 0 1 v) := fun a i _ y => up_n S (fun h => y h)
theorem C_trim {S : St} {n : Int} {k : Int → St → Prop} (h : (n < 0 ∨ S 0 1 < n → k (-12) S) ∧ (0 ≤ n → n ≤ S 0 1 → k n (up S 0 1 n))) : wX7_trim S n k := by
  unfold wX7_trim wX7_trim_0
  refine ⟨fun c => h.1 (Or.inl c), fun c => ⟨fun d S' e => ?_, fun d => h.1 (Or.inr d)⟩⟩
  rw [e]; exact h.2 c d
theorem R_trim {S : St} {n : Int} {k : Int → St → Prop} (h : (n < 0 ∨ S 0 1 < n → k (-12) S) ∧ (0 ≤ n → n ≤ S 0 1 → k n (up S 0 1 n))) : wX8_trim S n k := by
  unfold wX8_trim wX8_trim_0
  refine R_in S ?_
  by_cases c : 0 ≤ n ∧ n ≤ S 0 1
  · rw [if_pos c]
    exact ⟨fun _ S' e => by rw [e]; exact h.2 c.1 c.2, fun d => absurd d (by decide)⟩
  · rw [if_neg c]
    exact ⟨fun d => absurd rfl d, fun _ => h.1 (by omega)⟩
/-- byte q of a number, as both put it on the tape -/
def byt (x q : Int) : Int := sb8 (sb8 (ushr32 x (24 - 8 * q)))
theorem byt_bits (x : Int32) {n : Nat} (h : n ≤ 24) : (x.toBitVec >>> n).truncate 8 = (x.toBitVec.sshiftRight n).truncate 8 := by
  apply BitVec.eq_of_getLsbD_eq
  intro i hi
  simp only [BitVec.truncate, BitVec.getLsbD_setWidth, BitVec.getLsbD_ushiftRight, BitVec.getLsbD_sshiftRight, hi, decide_true, Bool.true_and]
  have h1 : n + i < 32 := by omega
  simp [h1]
  omega
theorem sb8_eq (z : Int) : sb8 z = (z + 128) % 256 - 128 := by
  unfold sb8
  rw [Int8.toInt_toInt32, Int32.toInt_toInt8]
  unfold i32
  rw [Int32.toInt_ofInt]
  have : (Int32.size : Nat) = 2 ^ 32 := rfl
  rw [this, w32_bmod, Int.bmod_def]
  unfold w32
  split <;> omega
theorem ti_nat (v : Int32) : v.toInt = w32 (v.toBitVec.toNat : Int) := by
  have h : v.toInt = v.toBitVec.toInt := rfl
  rw [h, BitVec.toInt_eq_toNat_bmod, w32_bmod]
theorem byt_eq (x : Int) {y : Int} {n : Nat} (hy : y = (n : Int)) (hn : n ≤ 24) : sb8 (shr32 x y) = sb8 (ushr32 x y) := by
  have e1 : ∀ n : Nat, n < 25 → ((i32 (n : Int) &&& 31).toBitVec.smod 32).toNat = n ∧ (((i32 (n : Int)).toUInt32 &&& Int32.toUInt32 31).toBitVec % 32).toNat = n := by decide +kernel
  have e2 := e1 n (by omega)
  subst hy
  have e3 : (i32 x >>> (i32 (n : Int) &&& 31)).toInt8 = (((i32 x).toUInt32 >>> ((i32 (n : Int)).toUInt32 &&& Int32.toUInt32 31)).toInt32).toInt8 := by
    apply Int8.toBitVec_inj.mp
    rw [Int32.toBitVec_toInt8, Int32.toBitVec_toInt8]
    show ((i32 x).toBitVec.sshiftRight ((i32 (n : Int) &&& 31).toBitVec.smod 32).toNat).signExtend 8 = ((i32 x).toBitVec >>> (((i32 (n : Int)).toUInt32 &&& Int32.toUInt32 31).toBitVec % 32).toNat).signExtend 8
    rw [e2.1, e2.2, BitVec.signExtend_eq_setWidth_of_le _ (by decide), BitVec.signExtend_eq_setWidth_of_le _ (by decide)]
    exact (byt_bits (i32 x) hn).symm
  unfold sb8 shr32 ushr32
  rw [i32_of, i32_of, e3]
