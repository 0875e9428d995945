/-! pure: bits -/
theorem and1_32 (x : BitVec 32) : x &&& 1#32 = 0#32 ↔ x.getLsbD 0 = false := by
  constructor
  · intro h
    have := congrArg (fun y => y.getLsbD 0) h
    simpa using this
  · intro h
    apply BitVec.eq_of_getLsbD_eq
    intro i hi
    by_cases e : i = 0
    · subst e; rw [BitVec.getLsbD_and, h]; simp
    · simp [BitVec.getLsbD_one, e]
theorem and1_64 (x : BitVec 64) : x &&& 1#64 = 0#64 ↔ x.getLsbD 0 = false := by
  constructor
  · intro h
    have := congrArg (fun y => y.getLsbD 0) h
    simpa using this
  · intro h
    apply BitVec.eq_of_getLsbD_eq
    intro i hi
    by_cases e : i = 0
    · subst e; rw [BitVec.getLsbD_and, h]; simp
    · simp [BitVec.getLsbD_one, e]
theorem z_i32 (x : Int32) : x.toInt = 0 ↔ x.toBitVec = 0#32 := by
  constructor
  · intro h
    have : x = 0 := Int32.toInt_inj.mp (by rw [h]; rfl)
    rw [this]; rfl
  · intro h
    have : x = 0 := Int32.toBitVec_inj.mp (by rw [h]; rfl)
    rw [this]; rfl
theorem z_i64 (x : Int64) : x.toInt = 0 ↔ x.toBitVec = 0#64 := by
  constructor
  · intro h
    have : x = 0 := Int64.toInt_inj.mp (by rw [h]; rfl)
    rw [this]; rfl
  · intro h
    have : x = 0 := Int64.toBitVec_inj.mp (by rw [h]; rfl)
    rw [this]; rfl
theorem bit_lsb (v : Int) {n : Nat} (hn : n < 24) : bit v n ↔ (i32 v).toBitVec.getLsbD n = true := by
  have e1 : ∀ n : Nat, n < 24 → (((i32 (n : Int)).toUInt32 &&& Int32.toUInt32 31).toBitVec % 32).toNat = n := by decide +kernel
  have e2 := e1 n hn
  unfold bit and32 ushr32
  rw [i32_of, z_i32]
  have e3 : ((((i32 v).toUInt32 >>> ((i32 (n : Int)).toUInt32 &&& Int32.toUInt32 31)).toInt32) &&& i32 1).toBitVec = ((i32 v).toBitVec >>> n) &&& 1#32 := by
    show ((i32 v).toBitVec >>> (((i32 (n : Int)).toUInt32 &&& Int32.toUInt32 31).toBitVec % 32).toNat) &&& (i32 1).toBitVec = _
    rw [e2]; rfl
  rw [e3, and1_32, BitVec.getLsbD_ushiftRight, Nat.add_zero]
  cases (i32 v).toBitVec.getLsbD n <;> simp
theorem bit_or {v x y : Int} (hx : 0 ≤ x ∧ x < 24) (hy : 0 ≤ y ∧ y < 24) : bit (or32 v (shl32 1 x)) y ↔ bit v y ∨ y = x := by
  have e1 : ∀ n : Nat, n < 24 → ∀ m : Nat, m < 24 → (i32 (shl32 1 (n : Int))).toBitVec.getLsbD m = decide (m = n) := by decide +kernel
  have e2 := e1 x.toNat (by omega) y.toNat (by omega)
  have ex : (x.toNat : Int) = x := by omega
  have ey : (y.toNat : Int) = y := by omega
  rw [ex] at e2
  have b1 := bit_lsb (or32 v (shl32 1 x)) (n := y.toNat) (by omega)
  have b2 := bit_lsb v (n := y.toNat) (by omega)
  rw [ey] at b1 b2
  have e3 : i32 (or32 v (shl32 1 x)) = i32 v ||| i32 (shl32 1 x) := by unfold or32; rw [i32_of]
  rw [b1, b2, e3]
  have e4 : (i32 v ||| i32 (shl32 1 x)).toBitVec = (i32 v).toBitVec ||| (i32 (shl32 1 x)).toBitVec := rfl
  rw [e4, BitVec.getLsbD_or, e2]
  have e5 : decide (y.toNat = x.toNat) = decide (y = x) := by
    by_cases c : y = x
    · simp [c]
    · have : ¬ y.toNat = x.toNat := by omega
      simp [c, this]
  rw [e5]
  simp
theorem bit_0 {y : Int} (hy : 0 ≤ y ∧ y < 24) : ¬ bit 0 y := by
  have b1 := bit_lsb 0 (n := y.toNat) (by omega)
  have ey : (y.toNat : Int) = y := by omega
  rw [ey] at b1
  rw [b1]
  have : i32 0 = 0 := rfl
  rw [this]
  simp
/-- bit n of row v (of 64) -/
def bit6 (v n : Int) : Prop := ¬ and64 (ushr64 v (and32 n 63)) 1 = 0
theorem a63 : ∀ n : Nat, n < 128 → and32 (n : Int) 63 = ((n % 64 : Nat) : Int) := by decide +kernel
theorem sh64 : ∀ n : Nat, n < 64 → (((i32 (n : Int)).toInt64.toUInt64 &&& Int64.toUInt64 63).toBitVec % 64).toNat = n := by decide +kernel
theorem bit6_lsb (v : Int) {n : Nat} (hn : n < 128) : bit6 v n ↔ (i64 v).toBitVec.getLsbD (n % 64) = true := by
  have e2 := sh64 (n % 64) (Nat.mod_lt _ (by decide))
  unfold bit6
  rw [a63 n hn]
  unfold and64 ushr64
  rw [i64_of, z_i64]
  have e3 : ((((i64 v).toUInt64 >>> ((i32 ((n % 64 : Nat) : Int)).toInt64.toUInt64 &&& Int64.toUInt64 63)).toInt64) &&& i64 1).toBitVec = ((i64 v).toBitVec >>> (n % 64)) &&& 1#64 := by
    show ((i64 v).toBitVec >>> (((i32 ((n % 64 : Nat) : Int)).toInt64.toUInt64 &&& Int64.toUInt64 63).toBitVec % 64).toNat) &&& (i64 1).toBitVec = _
    rw [e2]; rfl
  rw [e3, and1_64, BitVec.getLsbD_ushiftRight, Nat.add_zero]
  cases (i64 v).toBitVec.getLsbD (n % 64) <;> simp
theorem shl64_lsb : ∀ n : Nat, n < 64 → ∀ m : Nat, m < 64 → (i64 (shl64 1 (n : Int))).toBitVec.getLsbD m = decide (m = n) := by decide +kernel
theorem bit6_or {v x y : Int} (hx : 0 ≤ x ∧ x < 128) (hy : 0 ≤ y ∧ y < 128) : bit6 (or64 v (shl64 1 (and32 x 63))) y ↔ bit6 v y ∨ y % 64 = x % 64 := by
  have ex : (x.toNat : Int) = x := by omega
  have ey : (y.toNat : Int) = y := by omega
  have e2 := shl64_lsb (x.toNat % 64) (Nat.mod_lt _ (by decide)) (y.toNat % 64) (Nat.mod_lt _ (by decide))
  have a1 := a63 x.toNat (by omega)
  rw [ex] at a1
  rw [← a1] at e2
  have b1 := bit6_lsb (or64 v (shl64 1 (and32 x 63))) (n := y.toNat) (by omega)
  have b2 := bit6_lsb v (n := y.toNat) (by omega)
  rw [ey] at b1 b2
  have e3 : i64 (or64 v (shl64 1 (and32 x 63))) = i64 v ||| i64 (shl64 1 (and32 x 63)) := by unfold or64; rw [i64_of]
  rw [b1, b2, e3]
  have e4 : (i64 v ||| i64 (shl64 1 (and32 x 63))).toBitVec = (i64 v).toBitVec ||| (i64 (shl64 1 (and32 x 63))).toBitVec := rfl
  rw [e4, BitVec.getLsbD_or, e2]
  have e5 : decide (y.toNat % 64 = x.toNat % 64) = decide (y % 64 = x % 64) := by
    by_cases c : y % 64 = x % 64
    · have : y.toNat % 64 = x.toNat % 64 := by omega
      simp [c, this]
    · have : ¬ y.toNat % 64 = x.toNat % 64 := by omega
      simp [c, this]
  rw [e5]
  simp
theorem bit6_0 {y : Int} (hy : 0 ≤ y ∧ y < 128) : ¬ bit6 0 y := by
  have b1 := bit6_lsb 0 (n := y.toNat) (by omega)
  have ey : (y.toNat : Int) = y := by omega
  rw [ey] at b1
  rw [b1]
  have : i64 0 = 0 := rfl
  rw [this]
  simp
