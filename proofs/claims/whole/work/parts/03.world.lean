/-! the cells: 0 CallCourt, 2 and 515 the families (each: 6 of its own, 24 types of 6, 121 members of 3), 1028 Tokens, 1032 Reader, 1034 Closer, 1037 Docket, 1042 the reference -/
def fkd (ci k : Nat) : Nat := match ci with
  | 0 => ([3, 3, 2, 2, 0] : List Nat).getD k 9
  | 1 => ([3, 2, 0, 2, 2, 2, 0, 0] : List Nat).getD k 9
  | 2 => ([2, 0, 2, 0, 2, 2, 2, 0, 0] : List Nat).getD k 9
  | 3 => ([1, 0, 0, 0, 0, 2, 2, 0] : List Nat).getD k 9
  | 4 => ([4, 4, 2, 3, 0, 0, 1, 0, 0, 0, 0, 0, 3, 0, 3] : List Nat).getD k 9
  | 5 => ([2, 2, 2, 0, 0] : List Nat).getD k 9
  | 6 => ([0, 1, 0, 0, 0, 0, 0, 2, 2, 0, 2, 0, 0, 2, 0, 2, 0, 0, 0, 0] : List Nat).getD k 9
  | 7 => ([2, 0, 0, 0, 3, 3, 4, 4, 4] : List Nat).getD k 9
  | 8 => ([2, 0, 0, 2, 0, 0, 0, 1, 0, 0, 0, 0, 2, 2, 2, 2, 2, 2, 2, 2, 2, 2, 2, 2, 2, 2, 2, 2, 2, 2, 2, 2, 2, 2, 2, 2, 2, 2, 2, 2, 2, 2, 2, 2, 2, 2, 0, 0, 0, 2, 0, 2, 0, 0, 0, 2, 0, 2, 0, 0] : List Nat).getD k 9
  | _ => 9
def fof (ci k : Nat) : Nat := match ci with
  | 0 => ([0, 0, 1, 2, 0] : List Nat).getD k 0
  | 1 => ([0, 1, 0, 2, 3, 4, 0, 0] : List Nat).getD k 0
  | 2 => ([1, 0, 2, 0, 3, 4, 5, 0, 0] : List Nat).getD k 0
  | 3 => ([0, 0, 0, 0, 0, 1, 2, 0] : List Nat).getD k 0
  | 4 => ([0, 0, 1, 0, 0, 0, 0, 0, 0, 0, 0, 0, 0, 0, 0] : List Nat).getD k 0
  | 5 => ([1, 2, 3, 0, 0] : List Nat).getD k 0
  | 6 => ([0, 0, 0, 0, 0, 0, 0, 1, 2, 0, 3, 0, 0, 4, 0, 5, 0, 0, 0, 0] : List Nat).getD k 0
  | 7 => ([1, 0, 0, 0, 0, 0, 0, 0, 0] : List Nat).getD k 0
  | 8 => ([1, 0, 0, 2, 0, 0, 0, 0, 0, 0, 0, 0, 3, 4, 5, 6, 7, 8, 9, 10, 11, 12, 13, 14, 15, 16, 17, 18, 19, 20, 21, 22, 23, 24, 25, 26, 27, 28, 29, 30, 31, 32, 33, 34, 35, 36, 0, 0, 0, 37, 0, 38, 0, 0, 0, 39, 0, 40, 0, 0] : List Nat).getD k 0
  | _ => 0
def nfd (ci : Nat) : Nat := ([5, 8, 9, 8, 15, 5, 20, 9, 60] : List Nat).getD ci 0
def kd (i : Nat) : Nat :=
  if i < 2 then ([7, 20] : List Nat).getD i 0
  else if i < 1028 then
    (if (i - 2) % 513 < 6 then ([2, 24, 25, 22, 21, 21] : List Nat).getD ((i - 2) % 513) 0
    else if (i - 2) % 513 < 150 then ([6, 22, 21, 21, 21, 21] : List Nat).getD (((i - 2) % 513 - 6) % 6) 0
    else ([3, 21, 21] : List Nat).getD (((i - 2) % 513 - 150) % 3) 0)
  else ([5, 21, 22, 21, 4, 22, 0, 21, 21, 1, 21, 21, 21, 23, 8, 20, 22, 21, 21, 21, 21, 22, 22, 21, 21, 21, 21, 21, 22, 21, 21, 21, 21, 21, 21, 21, 23, 21, 21, 21, 21, 21, 21, 22, 21, 21, 21, 21, 23, 21, 21, 21, 21, 21, 23] : List Nat).getD (i - 1028) 99
def ln (i : Nat) : Nat :=
  if i < 2 then ([0, 4000] : List Nat).getD i 0
  else if i < 1028 then
    (if (i - 2) % 513 < 6 then ([0, 24, 121, 242, 2880, 2880] : List Nat).getD ((i - 2) % 513) 0
    else if (i - 2) % 513 < 150 then ([0, 2, 2, 4, 24, 48] : List Nat).getD (((i - 2) % 513 - 6) % 6) 0
    else ([0, 3, 3] : List Nat).getD (((i - 2) % 513 - 150) % 3) 0)
  else ([0, 4001, 4001, 4001, 0, 572, 0, 360, 120, 0, 24, 24, 24, 24, 0, 4000, 14, 2, 2, 2, 2, 1402, 48, 48, 48, 48, 48, 48, 96, 96, 48, 240, 480, 48, 48, 1152, 1152, 2304, 48, 48, 48, 48, 240, 240, 240, 240, 240, 720, 28800, 14400, 14400, 24, 24, 24, 576] : List Nat).getD (i - 1028) 99
def NN : Nat := 1083
abbrev GG : Type := va_G × (Nat → ClassId) × (Nat → Nat)
def rv (G : GG) (x : Int) : Value := if x < 0 then .null else .ref (G.2.2 x.toNat)
def srf (ci k : Nat) : Nat := if ci = 7 then (if k = 6 then 1028 else if k = 7 then 1032 else 1037) else (if k = 0 then 1028 else 1034)
def fv (G : GG) (S : St) (ci i k : Nat) : Value := match fkd ci k with
  | 0 => .int (i32 (S i k))
  | 1 => .long (i64 (S i k))
  | 2 => .ref (G.2.2 (i + fof ci k))
  | 3 => rv G (S i k)
  | _ => .ref (G.2.2 (srf ci k))
def arw (G : GG) (S : St) (i : Nat) : (Nat → Int32) ⊕ (Nat → Int64) ⊕ (Nat → UInt32) ⊕ (Nat → UInt64) ⊕ (Nat → Option Nat) := match kd i with
  | 22 => .inr (.inl (fun j => i64 (S i j)))
  | 24 => .inr (.inr (.inr (.inr (fun j => some (G.2.2 (i + 5 + 6 * j))))))
  | 25 => .inr (.inr (.inr (.inr (fun j => some (G.2.2 (i + 148 + 3 * j))))))
  | _ => .inl (fun j => i32 (S i j))
def cel (G : GG) (S : St) (i : Nat) : va_E :=
  if kd i < 20 then .inr (kd i, (List.range (nfd (kd i))).map (fv G S (kd i) i))
  else .inl (G.2.1 (kd i - 20), ln i, arw G S i)
def slt (i j : Nat) : Nat := if kd i < 20 then fkd (kd i) j else if kd i = 22 then 1 else if kd i < 24 then 0 else 9
def rng (S : St) : Prop := ∀ i j : Nat, (slt i j = 0 → in32 (S i j)) ∧ (slt i j = 1 → in64 (S i j))
def wl (G : GG) (S : St) : va_W := (List.range NN).map (fun i => (G.2.2 i, cel G S i))
def Wd (G : GG) (S : St) (H : Heap) : Prop := rng S ∧ va_P G.1 vwCl (wl G S) H
def tysG (G : GG) : List (ClassId × FieldType) := [(G.2.1 0, .byte), (G.2.1 1, .int), (G.2.1 2, .long), (G.2.1 3, .boolean), (G.2.1 4, .object "CallCourt$Type"), (G.2.1 5, .object "CallCourt$Member")]
def AG (G : GG) : Nat → Prop := fun q => ∃ i, i < NN ∧ q = G.2.2 i
def okG (G : GG) : Prop := ∀ i j, i < NN → j < NN → G.2.2 i = G.2.2 j → i = j
def KU (G : GG) (U : State) : Prop := va_K G.1 vwCl (tysG G) U ∧ NwU U
theorem wl_get (G : GG) (S : St) {i : Nat} (h : i < NN) : (wl G S)[i]? = some (G.2.2 i, cel G S i) := by
  simp [wl, h]
theorem wl_set (G : GG) (S S' : St) {i : Nat} (e : Nat × va_E) (he : e = (G.2.2 i, cel G S' i)) (ho : ∀ j, j < NN → j ≠ i → cel G S' j = cel G S j) : (wl G S).set i e = wl G S' := by
  subst he
  apply List.ext_getElem?
  intro j
  rw [List.getElem?_set]
  split
  · rename_i h
    subst h
    simp only [wl, List.length_map, List.length_range]
    split
    · rename_i h2
      simp [h2]
    · rename_i h2
      simp [h2]
  · rename_i h
    by_cases hj : j < NN
    · rw [wl_get G S hj, wl_get G S' hj, ho j hj (fun h2 => h h2.symm)]
    · simp [wl, hj]
theorem wl_D {G : GG} (h : okG G) (S : St) : va_D (AG G) (wl G S) := by
  constructor
  · intro i j p q hi hj he
    have h1 : i < NN := by
      have := (List.getElem?_eq_some_iff.mp hi).1
      simpa [wl] using this
    have h2 : j < NN := by
      have := (List.getElem?_eq_some_iff.mp hj).1
      simpa [wl] using this
    rw [wl_get G S h1] at hi
    rw [wl_get G S h2] at hj
    cases hi; cases hj
    exact h i j h1 h2 he
  · intro k q hk
    have h1 : k < NN := by
      have := (List.getElem?_eq_some_iff.mp hk).1
      simpa [wl] using this
    rw [wl_get G S h1] at hk
    cases hk
    exact ⟨k, h1, rfl⟩
theorem cel_o {G : GG} {S : St} {i ci : Nat} (h : kd i = ci) (hc : ci < 20) : cel G S i = .inr (ci, (List.range (nfd ci)).map (fv G S ci i)) := by
  subst h; simp [cel, hc]
theorem cel_up_ne {G : GG} {S : St} {i : Nat} {a j v : Int} (h : (i : Int) ≠ a) : cel G (up S a j v) i = cel G S i := by
  have e : ∀ k : Int, up S a j v i k = S i k := fun k => up_n S (fun hh => h hh.1)
  have e2 : fv G (up S a j v) (kd i) i = fv G S (kd i) i := by
    funext k
    simp only [fv, e]
  have e3 : arw G (up S a j v) i = arw G S i := by
    simp only [arw, e]
  simp only [cel, e2, e3]
theorem cast_ne {i j : Nat} (h : j ≠ i) : (j : Int) ≠ (i : Int) := fun h2 => h (Int.ofNat.inj h2)
/-- a model's store lies in the store of all: its cell a is the cell i -/
def Vw (inj : St → St) (i : Nat) (a : Int) : Prop := (∀ (S : St) (j : Int), inj S i j = S a j) ∧ (∀ (S : St) (j x : Int), inj (up S a j x) = up (inj S) i j x)
def cmb (A B : St) : St := fun a j => if a < 1042 then A a j else B (a - 1042) j
def injC (B : St) : St → St := fun u => cmb u B
def injR (A : St) : St → St := fun u => cmb A u
theorem vwC (B : St) {i : Nat} {a : Int} (h : i < 1042) (e : (i : Int) = a) : Vw (injC B) i a := by
  subst e
  have h' : (i : Int) < 1042 := by omega
  constructor
  · intro S j
    simp [injC, cmb, h']
  · intro S j x
    funext b k
    simp only [injC, cmb, up]
    by_cases hb : b < 1042
    · simp [hb]
    · have hne : b ≠ (i : Int) := by omega
      simp [hb, hne]
theorem vwR (A : St) {i : Nat} {a : Int} (h : 0 ≤ a) (e : (i : Int) = 1042 + a) : Vw (injR A) i a := by
  constructor
  · intro S j
    have : ¬ ((i : Int) < 1042) := by omega
    have e2 : (i : Int) - 1042 = a := by omega
    simp only [injR, cmb, this, if_false, e2]
  · intro S j x
    funext b k
    simp only [injR, cmb, up]
    by_cases hb : b < 1042
    · have hne : b ≠ (i : Int) := by omega
      simp [hb, hne]
    · by_cases hbi : b = (i : Int)
      · have e3 : b - 1042 = a := by omega
        simp [hb, hbi, e, e3]
        have e4 : ¬ ((1042 : Int) + a < 1042) := by omega
        have e5 : (1042 : Int) + a - 1042 = a := by omega
        simp [e4, e5]
      · have e3 : b - 1042 ≠ a := by omega
        simp [hb, hbi, e3]
theorem rng_up {S : St} {i : Nat} {j : Nat} {v : Int} (h : rng S) (h0 : slt i j = 0 → in32 v) (h1 : slt i j = 1 → in64 v) : rng (up S i j v) := by
  intro a k
  by_cases ha : (a : Int) = i ∧ (k : Int) = j
  · have e1 : a = i := by omega
    have e2 : k = j := by omega
    subst e1; subst e2
    rw [up_s]
    exact ⟨h0, h1⟩
  · rw [up_n S ha]
    exact h a k
def wordsL : List Int := [0x7061636B, 0x6C6F61646572, 0x636C617373, 0x66616365, 0x6F66, 0x756E646572, 0x6F70656E, 0x6E656172, 0x6F776E, 0x737461746963, 0x6162737472616374, 0x6C656E74, 0x696E74, 0x6E6F6E65]
/-- the class's own row of words, which no call writes -/
def ZW (G : GG) (U : State) (H : Heap) : Prop := ∃ t : Nat, va_Z "CallCourt" "WORDS" "[J" (.ref t) (AG G) U H ∧ va_T .long t 14 (fun j => .long (i64 (wordsL.getD j 0))) (AG G) U H
theorem ZW.go {G : GG} {s U : State} {H : Heap} {locs : List Loc} (hvm : s.vm.Alike U.vm) (hS : va_S (AG G) s.heap H locs) (h : ZW G s s.heap) : ZW G U H := by
  obtain ⟨t, h1, h2⟩ := h
  exact ⟨t, (h1.moved hvm).kept (fun a ha hn => hS.2.1 a ha hn), (h2.moved hvm).kept (fun a ha hn => hS.2.1 a ha hn)⟩
