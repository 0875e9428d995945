/-! the law's entry: what the tables and the given start say there -/
section Entry
variable {s : State} {a : Array Value}
theorem ent_ar (ty : FieldType) (h : (Cond.arrayClass ty).before a s = true) (hno : ∀ x, va_RA s x ty = (s.vm.findClass ("[" ++ ty.toString) = some x)) : ∃ cA : ClassId, ArrOfT s cA ty ∧ va_RA s cA ty := by
  obtain ⟨cA, kA, comp, hfind, hk, hkind⟩ := Cond.arrayClass_spec h
  refine ⟨cA, fun n z => ⟨(fun k h => by cases h), kA, hk, comp, hkind⟩, ?_⟩
  rw [hno]
  exact hfind
theorem ent_ao (C : String) (h : (Cond.arrayOver (.object C)).before a s = true) : ∃ cA : ClassId, ArrOfT s cA (.object C) ∧ va_RA s cA (.object C) := by
  obtain ⟨comp, c, k, h1, h2, h3, h4, h5⟩ := Cond.arrayOver_spec h
  exact ⟨c, fun n z => ⟨(fun k h => by cases h), k, h3, comp, h4⟩, k, comp, h3, h4, h1, h5⟩
theorem isNW_tab {w : Cond} (h : isNW w = true) : w.onTables = true := by
  cases w <;> first | rfl | exact Bool.noConfusion h
theorem ent_K (hts : ∀ w ∈ lw_tbl, w.before a s = true) : ∃ (D : va_G) (cI : Nat → ClassId), ∀ z : Nat → Nat, KV (D, cI, z) s := by
  have hT : ∀ w ∈ wT, w.before a s = true := fun w hw => hts w (List.mem_filter.mp hw).1
  obtain ⟨c0, i0, k0⟩ := u_known (C := RX0) (T := TX0) (N := 5) (n := 5) hT inX0 (hT _ wz_in0)
  obtain ⟨c1, i1, k1⟩ := u_known (C := RX1) (T := TX1) (N := 8) (n := 8) hT inX1 (hT _ wz_in1)
  obtain ⟨c2, i2, k2⟩ := u_known (C := RX2) (T := TX2) (N := 9) (n := 9) hT inX2 (hT _ wz_in2)
  obtain ⟨c3, i3, k3⟩ := u_known (C := RX3) (T := TX3) (N := 8) (n := 8) hT inX3 (hT _ wz_in3)
  obtain ⟨c4, i4, k4⟩ := u_known (C := RX4) (T := TX4) (N := 15) (n := 15) hT inX4 (hT _ wz_in4)
  obtain ⟨c5, i5, k5⟩ := u_known (C := RX5) (T := TX5) (N := 5) (n := 5) hT inX5 (hT _ wz_in5)
  obtain ⟨c6, i6, k6⟩ := u_known (C := RX6) (T := TX6) (N := 20) (n := 20) hT inX6 (hT _ wz_in6)
  obtain ⟨c7, i7, k7⟩ := u_known (C := RX7) (T := TX7) (N := 9) (n := 9) hT inX7 (hT _ wz_in7)
  obtain ⟨c8, i8, k8⟩ := u_known (C := RX8) (T := TX8) (N := 60) (n := 60) hT inX8 (hT _ wz_in8)
  obtain ⟨a0, ha0⟩ := ent_ar .byte (hT _ wz_ar0) (fun _ => rfl)
  obtain ⟨a1, ha1⟩ := ent_ar .int (hT _ wz_ar1) (fun _ => rfl)
  obtain ⟨a2, ha2⟩ := ent_ar .long (hT _ wz_ar2) (fun _ => rfl)
  obtain ⟨a3, ha3⟩ := ent_ar .boolean (hT _ wz_ar3) (fun _ => rfl)
  obtain ⟨a4, ha4⟩ := ent_ao "CallCourt$Type" (hts _ lz_ao1)
  obtain ⟨a5, ha5⟩ := ent_ao "CallCourt$Member" (hts _ lz_ao2)
  refine ⟨(fun k => ([c0, c1, c2, c3, c4, c5, c6, c7, c8] : List ClassId).getD k c0, fun k => ([i0, i1, i2, i3, i4, i5, i6, i7, i8] : List (Nat → Nat)).getD k i0), fun k => ([a0, a1, a2, a3, a4, a5] : List ClassId).getD k a0, fun z => ⟨⟨?_, ?_⟩, fun w hw => va_Nw.of (isNW_tab (List.mem_filter.mp hw).2) (hts w (List.mem_filter.mp hw).1), va_AO.of (hts _ lz_ao1), va_AO.of (hts _ lz_ao2)⟩⟩
  · intro k q hq
    match k, hq with
    | 0, hq => cases hq; exact k0
    | 1, hq => cases hq; exact k1
    | 2, hq => cases hq; exact k2
    | 3, hq => cases hq; exact k3
    | 4, hq => cases hq; exact k4
    | 5, hq => cases hq; exact k5
    | 6, hq => cases hq; exact k6
    | 7, hq => cases hq; exact k7
    | 8, hq => cases hq; exact k8
    | k + 9, hq => simp [vwCl] at hq
  · intro k q hq
    match k, hq with
    | 0, hq => cases hq; exact ha0
    | 1, hq => cases hq; exact ha1
    | 2, hq => cases hq; exact ha2
    | 3, hq => cases hq; exact ha3
    | 4, hq => cases hq; exact ha4
    | 5, hq => cases hq; exact ha5
    | k + 6, hq => simp [tysG] at hq
theorem ent_Z {G : GG} (hts : ∀ w ∈ lw_tbl, w.before a s = true) (hgv : (Jvm.Cond.and given_1 narrow_1).before a s = true) (hA : ∀ q, AG G q → s.heap.size ≤ q) : ZW G s s.heap := by
  have hs := flat_of_before _ hgv
  have hAn : ∀ q : Nat, q < s.heap.size → ¬ AG G q := fun q h1 h2 => by have := hA q h2; omega
  have hel : ∀ j : Nat, j < 14 → (Term.elem (.static "CallCourt" "WORDS" "[J") (.int (Int32.ofNat j))).eval a s none [] s = some (.long (i64 (wordsL.getD j 0))) := by
    intro j hj
    match j, hj with
    | 0, _ => exact va_eqtl (hs _ (by decide +kernel))
    | 1, _ => exact va_eqtl (hs _ (by decide +kernel))
    | 2, _ => exact va_eqtl (hs _ (by decide +kernel))
    | 3, _ => exact va_eqtl (hs _ (by decide +kernel))
    | 4, _ => exact va_eqtl (hs _ (by decide +kernel))
    | 5, _ => exact va_eqtl (hs _ (by decide +kernel))
    | 6, _ => exact va_eqtl (hs _ (by decide +kernel))
    | 7, _ => exact va_eqtl (hs _ (by decide +kernel))
    | 8, _ => exact va_eqtl (hs _ (by decide +kernel))
    | 9, _ => exact va_eqtl (hs _ (by decide +kernel))
    | 10, _ => exact va_eqtl (hs _ (by decide +kernel))
    | 11, _ => exact va_eqtl (hs _ (by decide +kernel))
    | 12, _ => exact va_eqtl (hs _ (by decide +kernel))
    | 13, _ => exact va_eqtl (hs _ (by decide +kernel))
    | j + 14, hj => exact absurd hj (by omega)
  obtain ⟨t, ht, hT⟩ := va_Tof (tm := .static "CallCourt" "WORDS" "[J") (ty := .long) (N := 14) (f := fun j => .long (i64 (wordsL.getD j 0))) (A := AG G) (by decide) (hs (Cond.arrayOf (.static "CallCourt" "WORDS" "[J") .long) (by decide +kernel)) (va_eqt (hs (Cond.eq (.length (.static "CallCourt" "WORDS" "[J")) (.int 14)) (by decide +kernel))) hel hAn
  exact ⟨t, va_Zof (hts _ lz_ls) (hts (.initialized "CallCourt") (List.mem_filter.mp wq_X7).1) ht hAn, hT⟩
end Entry
