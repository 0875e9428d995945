/-! the common word list: every good word of the tables; a method's words are its own code and these; and the nest words -/
def wT : List Cond := lw_tbl.filter goodWord
theorem wT_good : ∀ w ∈ wT, (w.onTables && w.keeps) = true ∨ ∃ ty, w = .arrayClass ty := fun _ hw => good_of_word (List.mem_filter.mp hw).2
theorem wT_in {c2 : Cond} (h : c2 ∈ wT) : GoodIn wT (c2 :: wT) := by
  intro w hw
  rcases List.mem_cons.mp hw with rfl | h1
  · exact ⟨h, wT_good _ h⟩
  · exact ⟨h1, wT_good _ h1⟩
def isNW : Cond → Bool
  | .fieldLinkNest _ _ _ _ _ _ => true
  | .methodLinkNest _ _ _ _ => true
  | _ => false
def wN : List Cond := lw_tbl.filter isNW
def NwU (U : State) : Prop := ∀ w ∈ wN, va_Nw w U
theorem NwU.warm {s U : State} (hW : s.WarmedH U.vm) (h : NwU s) : NwU U := by
  intro w hw
  have h1 := h w hw
  have h2 := (List.mem_filter.mp hw).2
  cases w <;> first | exact va_Nw.warmF hW h1 | exact va_Nw.warmM hW h1 | exact Bool.noConfusion h2
/-- stores: what each cell holds, by its number and place; whole numbers all -/
abbrev St : Type := Int → Int → Int
def up (S : St) (a j v : Int) : St := fun b i => if b = a ∧ i = j then v else S b i
theorem up_s (S : St) (a j v : Int) : up S a j v a j = v := by simp [up]
theorem up_n (S : St) {a j v b i : Int} (h : ¬ (b = a ∧ i = j)) : up S a j v b i = S b i := by simp [up, h]
def w32 (x : Int) : Int := (x + 2147483648) % 4294967296 - 2147483648
def w64 (x : Int) : Int := (x + 9223372036854775808) % 18446744073709551616 - 9223372036854775808
theorem w32_bmod (x : Int) : x.bmod (2 ^ 32) = w32 x := by
  unfold w32
  rw [Int.bmod_def]
  split <;> omega
theorem w64_bmod (x : Int) : x.bmod (2 ^ 64) = w64 x := by
  unfold w64
  rw [Int.bmod_def]
  split <;> omega
theorem w32_id {x : Int} (h : -2147483648 ≤ x ∧ x < 2147483648) : w32 x = x := by unfold w32; omega
theorem w64_id {x : Int} (h : -9223372036854775808 ≤ x ∧ x < 9223372036854775808) : w64 x = x := by unfold w64; omega
def i32 (x : Int) : Int32 := Int32.ofInt x
def i64 (x : Int) : Int64 := Int64.ofInt x
def in32 (x : Int) : Prop := -2147483648 ≤ x ∧ x < 2147483648
def in64 (x : Int) : Prop := -9223372036854775808 ≤ x ∧ x < 9223372036854775808
theorem i32_toInt {x : Int} (h : in32 x) : (i32 x).toInt = x := by
  unfold i32
  rw [Int32.toInt_ofInt]
  have : (Int32.size : Nat) = 2 ^ 32 := rfl
  rw [this, w32_bmod, w32_id h]
theorem i64_toInt {x : Int} (h : in64 x) : (i64 x).toInt = x := by
  unfold i64
  rw [Int64.toInt_ofInt]
  have : (Int64.size : Nat) = 2 ^ 64 := rfl
  rw [this, w64_bmod, w64_id h]
theorem in32_toInt (v : Int32) : in32 v.toInt := ⟨v.le_toInt, v.toInt_lt⟩
theorem in64_toInt (v : Int64) : in64 v.toInt := ⟨v.le_toInt, v.toInt_lt⟩
theorem i32_of (v : Int32) : i32 v.toInt = v := by unfold i32; exact Int32.ofInt_toInt v
theorem i64_of (v : Int64) : i64 v.toInt = v := by unfold i64; exact Int64.ofInt_toInt v
def and32 (x y : Int) : Int := (i32 x &&& i32 y).toInt
def or32 (x y : Int) : Int := (i32 x ||| i32 y).toInt
def shl32 (x y : Int) : Int := (i32 x <<< (i32 y &&& 31)).toInt
def shr32 (x y : Int) : Int := (i32 x >>> (i32 y &&& 31)).toInt
def ushr32 (x y : Int) : Int := ((i32 x).toUInt32 >>> ((i32 y).toUInt32 &&& Int32.toUInt32 31)).toInt32.toInt
def div32 (x y : Int) : Int := (i32 x / i32 y).toInt
def sb8 (x : Int) : Int := (i32 x).toInt8.toInt32.toInt
def and64 (x y : Int) : Int := (i64 x &&& i64 y).toInt
def or64 (x y : Int) : Int := (i64 x ||| i64 y).toInt
def shl64 (x y : Int) : Int := (i64 x <<< ((i32 y).toInt64 &&& 63)).toInt
def ushr64 (x y : Int) : Int := ((i64 x).toUInt64 >>> ((i32 y).toInt64.toUInt64 &&& Int64.toUInt64 63)).toInt64.toInt
def cmp64 (x y : Int) : Int := if x < y then -1 else if x = y then 0 else 1
theorem ti_add {v w : Int32} {x y : Int} (h : v.toInt = x) (k : w.toInt = y) : (v + w).toInt = w32 (x + y) := by rw [Int32.toInt_add, h, k]; exact w32_bmod _
theorem ti_sub {v w : Int32} {x y : Int} (h : v.toInt = x) (k : w.toInt = y) : (v - w).toInt = w32 (x - y) := by rw [Int32.toInt_sub, h, k]; exact w32_bmod _
theorem ti_mul {v w : Int32} {x y : Int} (h : v.toInt = x) (k : w.toInt = y) : (v * w).toInt = w32 (x * y) := by rw [Int32.toInt_mul, h, k]; exact w32_bmod _
theorem ti_and {v w : Int32} {x y : Int} (h : v.toInt = x) (k : w.toInt = y) : (v &&& w).toInt = and32 x y := by rw [← h, ← k]; unfold and32; rw [i32_of, i32_of]
theorem ti_or {v w : Int32} {x y : Int} (h : v.toInt = x) (k : w.toInt = y) : (v ||| w).toInt = or32 x y := by rw [← h, ← k]; unfold or32; rw [i32_of, i32_of]
theorem ti_shl {v w : Int32} {x y : Int} (h : v.toInt = x) (k : w.toInt = y) : (v <<< (w &&& 31)).toInt = shl32 x y := by rw [← h, ← k]; unfold shl32; rw [i32_of, i32_of]
theorem ti_shr {v w : Int32} {x y : Int} (h : v.toInt = x) (k : w.toInt = y) : (v >>> (w &&& 31)).toInt = shr32 x y := by rw [← h, ← k]; unfold shr32; rw [i32_of, i32_of]
theorem ti_ushr {v w : Int32} {x y : Int} (h : v.toInt = x) (k : w.toInt = y) : ((v.toUInt32 >>> (w.toUInt32 &&& Int32.toUInt32 31)).toInt32).toInt = ushr32 x y := by rw [← h, ← k]; unfold ushr32; rw [i32_of, i32_of]
theorem ti_div {v w : Int32} {x y : Int} (h : v.toInt = x) (k : w.toInt = y) : (v / w).toInt = div32 x y := by rw [← h, ← k]; unfold div32; rw [i32_of, i32_of]
theorem ti_sb8 {v : Int32} {x : Int} (h : v.toInt = x) : v.toInt8.toInt32.toInt = sb8 x := by rw [← h]; unfold sb8; rw [i32_of]
theorem ti_and64 {v w : Int64} {x y : Int} (h : v.toInt = x) (k : w.toInt = y) : (v &&& w).toInt = and64 x y := by rw [← h, ← k]; unfold and64; rw [i64_of, i64_of]
theorem ti_or64 {v w : Int64} {x y : Int} (h : v.toInt = x) (k : w.toInt = y) : (v ||| w).toInt = or64 x y := by rw [← h, ← k]; unfold or64; rw [i64_of, i64_of]
theorem ti_shl64 {v : Int64} {w : Int32} {x y : Int} (h : v.toInt = x) (k : w.toInt = y) : (v <<< (w.toInt64 &&& 63)).toInt = shl64 x y := by rw [← h, ← k]; unfold shl64; rw [i32_of, i64_of]
theorem ti_ushr64 {v : Int64} {w : Int32} {x y : Int} (h : v.toInt = x) (k : w.toInt = y) : ((v.toUInt64 >>> (w.toInt64.toUInt64 &&& Int64.toUInt64 63)).toInt64).toInt = ushr64 x y := by rw [← h, ← k]; unfold ushr64; rw [i32_of, i64_of]
theorem ti_i2l {v : Int32} {x : Int} (h : v.toInt = x) : v.toInt64.toInt = x := by rw [← h]; exact Int32.toInt_toInt64 v
theorem ti_l2i {v : Int64} {x : Int} (h : v.toInt = x) : v.toInt32.toInt = w32 x := by
  rw [← h, Int64.toInt_toInt32]
  exact w32_bmod _
theorem ti_eq {v w : Int32} {x y : Int} (h : v.toInt = x) (k : w.toInt = y) : v = w ↔ x = y := by rw [← h, ← k]; exact Int32.toInt_inj.symm
theorem ti_lt {v w : Int32} {x y : Int} (h : v.toInt = x) (k : w.toInt = y) : v < w ↔ x < y := by rw [← h, ← k]; exact Int32.lt_iff_toInt_lt
theorem ti_le {v w : Int32} {x y : Int} (h : v.toInt = x) (k : w.toInt = y) : v ≤ w ↔ x ≤ y := by rw [← h, ← k]; exact Int32.le_iff_toInt_le
/-- iteration: 'n times round at most' -/
def itP {α : Type} (B : (α → Prop) → α → Prop) : Nat → α → Prop
  | 0, _ => False
  | n + 1, a => B (itP B n) a
def wlp {α : Type} (B : (α → Prop) → α → Prop) (a : α) : Prop := ∃ n, itP B n a
theorem wlp_of {α : Type} {B : (α → Prop) → α → Prop} (I : α → Prop) (μ : α → Nat) (h : ∀ (P : α → Prop) (a : α), I a → (∀ a', I a' → μ a' < μ a → P a') → B P a) {a : α} (ha : I a) : wlp B a := by
  have key : ∀ n a, I a → μ a < n → itP B n a := by
    intro n
    induction n with
    | zero => intro a _ h0; exact absurd h0 (Nat.not_lt_zero _)
    | succ n ih =>
      intro a hI hn
      exact h _ a hI (fun a' hI' hm => ih a' hI' (by omega))
  exact ⟨μ a + 1, key _ a ha (Nat.lt_succ_self _)⟩
