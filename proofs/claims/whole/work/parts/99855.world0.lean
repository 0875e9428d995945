/-! the start: the cells that the constructors made are the world of C0 and R0 -/
def S00 : St := cmb C0 R0
theorem S00_c {a j : Int} (h : a < 1042) : S00 a j = C0 a j := by unfold S00 cmb; rw [if_pos h]
theorem i32_nI : ∀ t : Nat, t < 24 → i32 (t : Int) = nI t := by decide +kernel
theorem C0_r {a j : Int} (h1 : ¬ (a = 0 ∧ (j = 4 ∨ j = 5))) (h2 : a < 1028) (h5 : ¬ (j = 0 ∧ ((8 ≤ a ∧ a < 152 ∧ (a - 8) % 6 = 0) ∨ (521 ≤ a ∧ a < 665 ∧ (a - 521) % 6 = 0)))) : C0 a j = 0 := by
  unfold C0
  rw [if_neg (by omega), if_neg (by omega), if_neg (by omega), if_neg (by omega), if_neg (by omega), if_neg (by omega), if_neg (by omega), if_neg (by omega), if_neg (by omega), if_neg (by omega)]
section World0
variable {G : GG} {H : Heap}
theorem cel_I {i n : Nat} (hk : kd i = 21) (hl : ln i = n) (hz : ∀ j : Int, S00 i j = 0) : cel G S00 i = .inl (G.2.1 1, n, .inl (fun _ => 0)) := by
  unfold cel arw
  rw [hk, hl, if_neg (by decide)]
  simp only [hz]
  rfl
theorem cel_L {i n : Nat} (hk : kd i = 22) (hl : ln i = n) (hz : ∀ j : Int, S00 i j = 0) : cel G S00 i = .inl (G.2.1 2, n, .inr (.inl (fun _ => 0))) := by
  unfold cel arw
  rw [hk, hl, if_neg (by decide)]
  simp only [hz]
  rfl
theorem cel_B {i n : Nat} (hk : kd i = 20) (hl : ln i = n) (hz : ∀ j : Int, S00 i j = 0) : cel G S00 i = .inl (G.2.1 0, n, .inl (fun _ => 0)) := by
  unfold cel arw
  rw [hk, hl, if_neg (by decide)]
  simp only [hz]
  rfl
theorem cel_Z {i n : Nat} (hk : kd i = 23) (hl : ln i = n) (hz : ∀ j : Int, S00 i j = 0) : cel G S00 i = .inl (G.2.1 3, n, .inl (fun _ => 0)) := by
  unfold cel arw
  rw [hk, hl, if_neg (by decide)]
  simp only [hz]
  rfl
/-- a type's six cells -/
theorem ty_cells {a : Nat} {t : Nat} (ht : t < 24) (k0 : kd a = 6) (k1 : kd (a + 1) = 22 ∧ ln (a + 1) = 2) (k2 : kd (a + 2) = 21 ∧ ln (a + 2) = 2) (k3 : kd (a + 3) = 21 ∧ ln (a + 3) = 4) (k4 : kd (a + 4) = 21 ∧ ln (a + 4) = 24) (k5 : kd (a + 5) = 21 ∧ ln (a + 5) = 48) (z0 : S00 a 0 = t) (z : ∀ j : Int, ¬ j = 0 → S00 a j = 0) (za : ∀ (r : Nat) (j : Int), 1 ≤ r → r ≤ 5 → S00 ((a + r : Nat) : Int) j = 0) (hP : va_P G.1 vwCl (vX6 G (G.2.2 a) (nI t) (fun r => G.2.2 (a + r))) H) : ∀ r, r < 6 → va_at G.1 vwCl (G.2.2 (a + r), cel G S00 (a + r)) H := by
  intro r hr
  have e0 : cel G S00 a = .inr (6, [.int (nI t), .long 0, .int 0, .int 0, .int 0, .int 0, .int 0, .ref (G.2.2 (a + 1)), .ref (G.2.2 (a + 2)), .int 0, .ref (G.2.2 (a + 3)), .int 0, .int 0, .ref (G.2.2 (a + 4)), .int 0, .ref (G.2.2 (a + 5)), .int 0, .int 0, .int 0, .int 0]) := by
    rw [cel_o k0 (by decide)]
    show Sum.inr (6, [Value.int (i32 (S00 a 0)), .long (i64 (S00 a 1)), .int (i32 (S00 a 2)), .int (i32 (S00 a 3)), .int (i32 (S00 a 4)), .int (i32 (S00 a 5)), .int (i32 (S00 a 6)), .ref (G.2.2 (a + 1)), .ref (G.2.2 (a + 2)), .int (i32 (S00 a 9)), .ref (G.2.2 (a + 3)), .int (i32 (S00 a 11)), .int (i32 (S00 a 12)), .ref (G.2.2 (a + 4)), .int (i32 (S00 a 14)), .ref (G.2.2 (a + 5)), .int (i32 (S00 a 16)), .int (i32 (S00 a 17)), .int (i32 (S00 a 18)), .int (i32 (S00 a 19))]) = _
    rw [z0, i32_nI t ht, z 1 (by decide), z 2 (by decide), z 3 (by decide), z 4 (by decide), z 5 (by decide), z 6 (by decide), z 9 (by decide), z 11 (by decide), z 12 (by decide), z 14 (by decide), z 16 (by decide), z 17 (by decide), z 18 (by decide), z 19 (by decide)]
    rfl
  match r, hr with
  | 0, _ => rw [Nat.add_zero, e0]; exact hP 0 _ rfl
  | 1, _ => rw [cel_L k1.1 k1.2 (fun j => za 1 j (by omega) (by omega))]; exact hP 1 _ rfl
  | 2, _ => rw [cel_I k2.1 k2.2 (fun j => za 2 j (by omega) (by omega))]; exact hP 2 _ rfl
  | 3, _ => rw [cel_I k3.1 k3.2 (fun j => za 3 j (by omega) (by omega))]; exact hP 3 _ rfl
  | 4, _ => rw [cel_I k4.1 k4.2 (fun j => za 4 j (by omega) (by omega))]; exact hP 4 _ rfl
  | 5, _ => rw [cel_I k5.1 k5.2 (fun j => za 5 j (by omega) (by omega))]; exact hP 5 _ rfl
theorem me_cells {a : Nat} (k0 : kd a = 3) (k1 : kd (a + 1) = 21 ∧ ln (a + 1) = 3) (k2 : kd (a + 2) = 21 ∧ ln (a + 2) = 3) (za : ∀ (r : Nat) (j : Int), r ≤ 2 → S00 ((a + r : Nat) : Int) j = 0) (hP : va_P G.1 vwCl (vX3 G (G.2.2 a) (fun r => G.2.2 (a + r))) H) : ∀ r, r < 3 → va_at G.1 vwCl (G.2.2 (a + r), cel G S00 (a + r)) H := by
  intro r hr
  have z : ∀ j : Int, S00 a j = 0 := fun j => za 0 j (by omega)
  have e0 : cel G S00 a = .inr (3, [.long 0, .int 0, .int 0, .int 0, .int 0, .ref (G.2.2 (a + 1)), .ref (G.2.2 (a + 2)), .int 0]) := by
    rw [cel_o k0 (by decide)]
    show Sum.inr (3, [Value.long (i64 (S00 a 0)), .int (i32 (S00 a 1)), .int (i32 (S00 a 2)), .int (i32 (S00 a 3)), .int (i32 (S00 a 4)), .ref (G.2.2 (a + 1)), .ref (G.2.2 (a + 2)), .int (i32 (S00 a 7))]) = _
    rw [z 0, z 1, z 2, z 3, z 4, z 7]
    rfl
  match r, hr with
  | 0, _ => rw [Nat.add_zero, e0]; exact hP 0 _ rfl
  | 1, _ => rw [cel_I k1.1 k1.2 (fun j => za 1 j (by omega))]; exact hP 1 _ rfl
  | 2, _ => rw [cel_I k2.1 k2.2 (fun j => za 2 j (by omega))]; exact hP 2 _ rfl
theorem TLs_in {D : va_G} {b : Nat → Nat → Nat} (i : Nat) (h : va_P D vwCl (TLs G b i) H) : ∀ j, j < i → va_P D vwCl (vX6 G (b j 0) (nI j) (b j)) H := by
  induction i with
  | zero => intro j hj; omega
  | succ i ih =>
    rw [TLs_succ] at h
    intro j hj
    by_cases c : j = i
    · rw [c]; exact vP_right h
    · exact ih (vP_left h) j (by omega)
theorem MLs_in {D : va_G} {b : Nat → Nat → Nat} (i : Nat) (h : va_P D vwCl (MLs G b i) H) : ∀ j, j < i → va_P D vwCl (vX3 G (b j 0) (b j)) H := by
  induction i with
  | zero => intro j hj; omega
  | succ i ih =>
    rw [MLs_succ] at h
    intro j hj
    by_cases c : j = i
    · rw [c]; exact vP_right h
    · exact ih (vP_left h) j (by omega)
end World0
