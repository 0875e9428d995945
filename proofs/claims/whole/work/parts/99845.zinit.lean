/-! constructors without calls, printed by program -/
theorem wz_ob1 : Cond.instanceMethod Lib.objectInit ∈ wT := wu (wtab_1 (List.mem_of_getElem? (i := 17) (by decide +kernel))) rfl
theorem wz_ob2 : Cond.code Lib.objectInit ⟨#[0xb1]⟩ 1 none ∈ wT := wu (wtab_1 (List.mem_of_getElem? (i := 18) (by rfl))) rfl
theorem wz_ar0 : Cond.arrayClass .byte ∈ wT := wu (wtab_1 (List.mem_of_getElem? (i := 145) (by decide +kernel))) rfl
theorem wz_ar1 : Cond.arrayClass .int ∈ wT := wu (wtab_1 (List.mem_of_getElem? (i := 147) (by decide +kernel))) rfl
theorem wz_ar2 : Cond.arrayClass .long ∈ wT := wu (wtab_1 (List.mem_of_getElem? (i := 146) (by decide +kernel))) rfl
theorem wz_ar3 : Cond.arrayClass .boolean ∈ wT := wu (wtab_2 (List.mem_of_getElem? (i := 148) (by decide +kernel))) rfl
def dX6 : List Value := [.int 0, .long 0, .int 0, .int 0, .int 0, .int 0, .int 0, .null, .null, .int 0, .null, .int 0, .int 0, .null, .int 0, .null, .int 0, .int 0, .int 0, .int 0]
theorem wz_oi6 : Cond.methodLink RX6 3 Lib.objectInit ∈ wT := wu (wtab_1 (List.mem_of_getElem? (i := 33) (by decide +kernel))) rfl
theorem fz_X6_9 : Cond.fieldLink RX6 9 (TX6 7).1 (TX6 7).2.1 (TX6 7).2.2.1 ∈ wT := wu (wtab_1 (List.mem_of_getElem? (i := 58) (by decide +kernel))) rfl
theorem fz_X6_15 : Cond.fieldLink RX6 15 (TX6 8).1 (TX6 8).2.1 (TX6 8).2.2.1 ∈ wT := wu (wtab_1 (List.mem_of_getElem? (i := 60) (by decide +kernel))) rfl
theorem fz_X6_19 : Cond.fieldLink RX6 19 (TX6 10).1 (TX6 10).2.1 (TX6 10).2.2.1 ∈ wT := wu (wtab_1 (List.mem_of_getElem? (i := 66) (by decide +kernel))) rfl
theorem fz_X6_22 : Cond.fieldLink RX6 22 (TX6 13).1 (TX6 13).2.1 (TX6 13).2.2.1 ∈ wT := wu (wtab_1 (List.mem_of_getElem? (i := 77) (by decide +kernel))) rfl
theorem fz_X6_25 : Cond.fieldLink RX6 25 (TX6 15).1 (TX6 15).2.1 (TX6 15).2.2.1 ∈ wT := wu (wtab_1 (List.mem_of_getElem? (i := 85) (by decide +kernel))) rfl
theorem fz_X6_28 : Cond.fieldLink RX6 28 (TX6 0).1 (TX6 0).2.1 (TX6 0).2.2.1 ∈ wT := wu (wtab_1 (List.mem_of_getElem? (i := 34) (by decide +kernel))) rfl
def vX6 (G : GG) (h0 : Nat) (k0 : Int32) (ad : Nat → Nat) : va_W := [(h0, .inr (6, [.int k0, .long 0, .int 0, .int 0, .int 0, .int 0, .int 0, .ref (ad 1), .ref (ad 2), .int 0, .ref (ad 3), .int 0, .int 0, .ref (ad 4), .int 0, .ref (ad 5), .int 0, .int 0, .int 0, .int 0])), (ad 1, .inl (G.2.1 2, 2, .inr (.inl (fun _ => 0)))), (ad 2, .inl (G.2.1 1, 2, .inl (fun _ => 0))), (ad 3, .inl (G.2.1 1, 4, .inl (fun _ => 0))), (ad 4, .inl (G.2.1 1, 24, .inl (fun _ => 0))), (ad 5, .inl (G.2.1 1, 48, .inl (fun _ => 0)))]
set_option maxHeartbeats 4000000 in
set_option maxRecDepth 100000 in
theorem z_X6 (l : Launch) (G : GG) (h0 sz : Nat) (k0 : Int32) : CnZ l yX6_init cX6_init 2 1 14 5 80 G [.ref h0, .int k0] sz [(h0, .inr (6, dX6))] [] (vX6 G h0 k0) := by
  refine cz_body (by decide) rfl (Nat.le_of_ble_eq_true rfl) ?_
  intro p e s m args below meth c ls C hsz hP hD0 hl
  subst hsz
  have hD := (vD_left hD0).self (sz := s.heap.size)
  have hA : ∀ q : Nat, s.heap.size ≤ q → va_A [(h0, .inr (6, dX6))] s.heap.size q := fun q h => Or.inr h
  have hS : va_S (va_A [(h0, .inr (6, dX6))] s.heap.size) s.heap s.heap [] := va_S.rf
  generalize hAe : va_A [(h0, .inr (6, dX6))] s.heap.size = A at hD hA hS
  have hP : va_P G.1 vwCl [(h0, .inr (6, [.int 0, .long 0, .int 0, .int 0, .int 0, .int 0, .int 0, .null, .null, .int 0, .null, .int 0, .int 0, .null, .int 0, .null, .int 0, .int 0, .int 0, .int 0]))] s.heap := hP
  have hD : va_D A [(h0, .inr (6, [.int 0, .long 0, .int 0, .int 0, .int 0, .int 0, .int 0, .null, .null, .int 0, .null, .int 0, .int 0, .null, .int 0, .null, .int 0, .int 0, .int 0, .int 0]))] := hD
  refine lv_aload_n C.1.1 C.1.2.1 dX6_init_0 rfl (lv_at hl 0 rfl) ?_
  refine W.objInit C.1.1 C.1.2.1 C.1.2.2.2.1 (C.1.2.2.2.2 _ wz_oi6) (C.1.2.2.2.2 _ wz_ob1) (C.1.2.2.2.2 _ wz_ob2) rfl (hl.1.trans C.1.2.2.1.symm) rfl dX6_init_1 (Nat.le_of_ble_eq_true rfl) (Nat.le_of_ble_eq_true rfl) ?_
  refine lv_aload_n C.1.1 C.1.2.1 dX6_init_4 rfl (lv_at hl 0 rfl) ?_
  refine lv_iconst (v := 2) C.1.1 C.1.2.1 dX6_init_5 (by decide) ?_
  refine z_newa (j := 2) (cG := G.2.1 2) (N' := 2) (a0 := (2, .inr (.inl (fun _ => 0)))) C wz_ar2 rfl rfl (fun _ h => h) hP hD hS hA (fun _ => rfl) (by decide) rfl (by decide) (Nat.le_of_ble_eq_true rfl) (Nat.le_of_ble_eq_true rfl) dX6_init_6 (fun q1 H hP hD hS => ?_)
  have hP : va_P G.1 vwCl ([(h0, .inr (6, [.int 0, .long 0, .int 0, .int 0, .int 0, .int 0, .int 0, .null, .null, .int 0, .null, .int 0, .int 0, .null, .int 0, .null, .int 0, .int 0, .int 0, .int 0])), (q1, .inl (G.2.1 2, 2, .inr (.inl (fun _ => 0))))]) H := hP
  have hD : va_D A ([(h0, .inr (6, [.int 0, .long 0, .int 0, .int 0, .int 0, .int 0, .int 0, .null, .null, .int 0, .null, .int 0, .int 0, .null, .int 0, .null, .int 0, .int 0, .int 0, .int 0])), (q1, .inl (G.2.1 2, 2, .inr (.inl (fun _ => 0))))]) := hD
  refine z_putF (k := 7) C rfl inX6 tyX6_ok nmX6 (by decide) fz_X6_9 rfl rfl rfl rfl (Nat.le_of_ble_eq_true rfl) hP hD hS dX6_init_8 (fun H locs hP hD hS => ?_)
  have hP : va_P G.1 vwCl ([(h0, .inr (6, [.int 0, .long 0, .int 0, .int 0, .int 0, .int 0, .int 0, .ref q1, .null, .int 0, .null, .int 0, .int 0, .null, .int 0, .null, .int 0, .int 0, .int 0, .int 0])), (q1, .inl (G.2.1 2, 2, .inr (.inl (fun _ => 0))))]) H := hP
  have hD : va_D A ([(h0, .inr (6, [.int 0, .long 0, .int 0, .int 0, .int 0, .int 0, .int 0, .ref q1, .null, .int 0, .null, .int 0, .int 0, .null, .int 0, .null, .int 0, .int 0, .int 0, .int 0])), (q1, .inl (G.2.1 2, 2, .inr (.inl (fun _ => 0))))]) := hD
  refine lv_aload_n C.1.1 C.1.2.1 dX6_init_11 rfl (lv_at hl 0 rfl) ?_
  refine lv_iconst (v := 2) C.1.1 C.1.2.1 dX6_init_12 (by decide) ?_
  refine z_newa (j := 1) (cG := G.2.1 1) (N' := 2) (a0 := (2, .inl (fun _ => 0))) C wz_ar1 rfl rfl (fun _ h => h) hP hD hS hA (fun _ => rfl) (by decide) rfl (by decide) (Nat.le_of_ble_eq_true rfl) (Nat.le_of_ble_eq_true rfl) dX6_init_13 (fun q2 H hP hD hS => ?_)
  have hP : va_P G.1 vwCl ([(h0, .inr (6, [.int 0, .long 0, .int 0, .int 0, .int 0, .int 0, .int 0, .ref q1, .null, .int 0, .null, .int 0, .int 0, .null, .int 0, .null, .int 0, .int 0, .int 0, .int 0])), (q1, .inl (G.2.1 2, 2, .inr (.inl (fun _ => 0)))), (q2, .inl (G.2.1 1, 2, .inl (fun _ => 0)))]) H := hP
  have hD : va_D A ([(h0, .inr (6, [.int 0, .long 0, .int 0, .int 0, .int 0, .int 0, .int 0, .ref q1, .null, .int 0, .null, .int 0, .int 0, .null, .int 0, .null, .int 0, .int 0, .int 0, .int 0])), (q1, .inl (G.2.1 2, 2, .inr (.inl (fun _ => 0)))), (q2, .inl (G.2.1 1, 2, .inl (fun _ => 0)))]) := hD
  refine z_putF (k := 8) C rfl inX6 tyX6_ok nmX6 (by decide) fz_X6_15 rfl rfl rfl rfl (Nat.le_of_ble_eq_true rfl) hP hD hS dX6_init_15 (fun H locs hP hD hS => ?_)
  have hP : va_P G.1 vwCl ([(h0, .inr (6, [.int 0, .long 0, .int 0, .int 0, .int 0, .int 0, .int 0, .ref q1, .ref q2, .int 0, .null, .int 0, .int 0, .null, .int 0, .null, .int 0, .int 0, .int 0, .int 0])), (q1, .inl (G.2.1 2, 2, .inr (.inl (fun _ => 0)))), (q2, .inl (G.2.1 1, 2, .inl (fun _ => 0)))]) H := hP
  have hD : va_D A ([(h0, .inr (6, [.int 0, .long 0, .int 0, .int 0, .int 0, .int 0, .int 0, .ref q1, .ref q2, .int 0, .null, .int 0, .int 0, .null, .int 0, .null, .int 0, .int 0, .int 0, .int 0])), (q1, .inl (G.2.1 2, 2, .inr (.inl (fun _ => 0)))), (q2, .inl (G.2.1 1, 2, .inl (fun _ => 0)))]) := hD
  refine lv_aload_n C.1.1 C.1.2.1 dX6_init_18 rfl (lv_at hl 0 rfl) ?_
  refine lv_iconst (v := 4) C.1.1 C.1.2.1 dX6_init_19 (by decide) ?_
  refine z_newa (j := 1) (cG := G.2.1 1) (N' := 4) (a0 := (4, .inl (fun _ => 0))) C wz_ar1 rfl rfl (fun _ h => h) hP hD hS hA (fun _ => rfl) (by decide) rfl (by decide) (Nat.le_of_ble_eq_true rfl) (Nat.le_of_ble_eq_true rfl) dX6_init_20 (fun q3 H hP hD hS => ?_)
  have hP : va_P G.1 vwCl ([(h0, .inr (6, [.int 0, .long 0, .int 0, .int 0, .int 0, .int 0, .int 0, .ref q1, .ref q2, .int 0, .null, .int 0, .int 0, .null, .int 0, .null, .int 0, .int 0, .int 0, .int 0])), (q1, .inl (G.2.1 2, 2, .inr (.inl (fun _ => 0)))), (q2, .inl (G.2.1 1, 2, .inl (fun _ => 0))), (q3, .inl (G.2.1 1, 4, .inl (fun _ => 0)))]) H := hP
  have hD : va_D A ([(h0, .inr (6, [.int 0, .long 0, .int 0, .int 0, .int 0, .int 0, .int 0, .ref q1, .ref q2, .int 0, .null, .int 0, .int 0, .null, .int 0, .null, .int 0, .int 0, .int 0, .int 0])), (q1, .inl (G.2.1 2, 2, .inr (.inl (fun _ => 0)))), (q2, .inl (G.2.1 1, 2, .inl (fun _ => 0))), (q3, .inl (G.2.1 1, 4, .inl (fun _ => 0)))]) := hD
  refine z_putF (k := 10) C rfl inX6 tyX6_ok nmX6 (by decide) fz_X6_19 rfl rfl rfl rfl (Nat.le_of_ble_eq_true rfl) hP hD hS dX6_init_22 (fun H locs hP hD hS => ?_)
  have hP : va_P G.1 vwCl ([(h0, .inr (6, [.int 0, .long 0, .int 0, .int 0, .int 0, .int 0, .int 0, .ref q1, .ref q2, .int 0, .ref q3, .int 0, .int 0, .null, .int 0, .null, .int 0, .int 0, .int 0, .int 0])), (q1, .inl (G.2.1 2, 2, .inr (.inl (fun _ => 0)))), (q2, .inl (G.2.1 1, 2, .inl (fun _ => 0))), (q3, .inl (G.2.1 1, 4, .inl (fun _ => 0)))]) H := hP
  have hD : va_D A ([(h0, .inr (6, [.int 0, .long 0, .int 0, .int 0, .int 0, .int 0, .int 0, .ref q1, .ref q2, .int 0, .ref q3, .int 0, .int 0, .null, .int 0, .null, .int 0, .int 0, .int 0, .int 0])), (q1, .inl (G.2.1 2, 2, .inr (.inl (fun _ => 0)))), (q2, .inl (G.2.1 1, 2, .inl (fun _ => 0))), (q3, .inl (G.2.1 1, 4, .inl (fun _ => 0)))]) := hD
  refine lv_aload_n C.1.1 C.1.2.1 dX6_init_25 rfl (lv_at hl 0 rfl) ?_
  refine lv_bipush (v := 24) C.1.1 C.1.2.1 dX6_init_26 (by decide) ?_
  refine z_newa (j := 1) (cG := G.2.1 1) (N' := 24) (a0 := (24, .inl (fun _ => 0))) C wz_ar1 rfl rfl (fun _ h => h) hP hD hS hA (fun _ => rfl) (by decide) rfl (by decide) (Nat.le_of_ble_eq_true rfl) (Nat.le_of_ble_eq_true rfl) dX6_init_28 (fun q4 H hP hD hS => ?_)
  have hP : va_P G.1 vwCl ([(h0, .inr (6, [.int 0, .long 0, .int 0, .int 0, .int 0, .int 0, .int 0, .ref q1, .ref q2, .int 0, .ref q3, .int 0, .int 0, .null, .int 0, .null, .int 0, .int 0, .int 0, .int 0])), (q1, .inl (G.2.1 2, 2, .inr (.inl (fun _ => 0)))), (q2, .inl (G.2.1 1, 2, .inl (fun _ => 0))), (q3, .inl (G.2.1 1, 4, .inl (fun _ => 0))), (q4, .inl (G.2.1 1, 24, .inl (fun _ => 0)))]) H := hP
  have hD : va_D A ([(h0, .inr (6, [.int 0, .long 0, .int 0, .int 0, .int 0, .int 0, .int 0, .ref q1, .ref q2, .int 0, .ref q3, .int 0, .int 0, .null, .int 0, .null, .int 0, .int 0, .int 0, .int 0])), (q1, .inl (G.2.1 2, 2, .inr (.inl (fun _ => 0)))), (q2, .inl (G.2.1 1, 2, .inl (fun _ => 0))), (q3, .inl (G.2.1 1, 4, .inl (fun _ => 0))), (q4, .inl (G.2.1 1, 24, .inl (fun _ => 0)))]) := hD
  refine z_putF (k := 13) C rfl inX6 tyX6_ok nmX6 (by decide) fz_X6_22 rfl rfl rfl rfl (Nat.le_of_ble_eq_true rfl) hP hD hS dX6_init_30 (fun H locs hP hD hS => ?_)
  have hP : va_P G.1 vwCl ([(h0, .inr (6, [.int 0, .long 0, .int 0, .int 0, .int 0, .int 0, .int 0, .ref q1, .ref q2, .int 0, .ref q3, .int 0, .int 0, .ref q4, .int 0, .null, .int 0, .int 0, .int 0, .int 0])), (q1, .inl (G.2.1 2, 2, .inr (.inl (fun _ => 0)))), (q2, .inl (G.2.1 1, 2, .inl (fun _ => 0))), (q3, .inl (G.2.1 1, 4, .inl (fun _ => 0))), (q4, .inl (G.2.1 1, 24, .inl (fun _ => 0)))]) H := hP
  have hD : va_D A ([(h0, .inr (6, [.int 0, .long 0, .int 0, .int 0, .int 0, .int 0, .int 0, .ref q1, .ref q2, .int 0, .ref q3, .int 0, .int 0, .ref q4, .int 0, .null, .int 0, .int 0, .int 0, .int 0])), (q1, .inl (G.2.1 2, 2, .inr (.inl (fun _ => 0)))), (q2, .inl (G.2.1 1, 2, .inl (fun _ => 0))), (q3, .inl (G.2.1 1, 4, .inl (fun _ => 0))), (q4, .inl (G.2.1 1, 24, .inl (fun _ => 0)))]) := hD
  refine lv_aload_n C.1.1 C.1.2.1 dX6_init_33 rfl (lv_at hl 0 rfl) ?_
  refine lv_bipush (v := 48) C.1.1 C.1.2.1 dX6_init_34 (by decide) ?_
  refine z_newa (j := 1) (cG := G.2.1 1) (N' := 48) (a0 := (48, .inl (fun _ => 0))) C wz_ar1 rfl rfl (fun _ h => h) hP hD hS hA (fun _ => rfl) (by decide) rfl (by decide) (Nat.le_of_ble_eq_true rfl) (Nat.le_of_ble_eq_true rfl) dX6_init_36 (fun q5 H hP hD hS => ?_)
  have hP : va_P G.1 vwCl ([(h0, .inr (6, [.int 0, .long 0, .int 0, .int 0, .int 0, .int 0, .int 0, .ref q1, .ref q2, .int 0, .ref q3, .int 0, .int 0, .ref q4, .int 0, .null, .int 0, .int 0, .int 0, .int 0])), (q1, .inl (G.2.1 2, 2, .inr (.inl (fun _ => 0)))), (q2, .inl (G.2.1 1, 2, .inl (fun _ => 0))), (q3, .inl (G.2.1 1, 4, .inl (fun _ => 0))), (q4, .inl (G.2.1 1, 24, .inl (fun _ => 0))), (q5, .inl (G.2.1 1, 48, .inl (fun _ => 0)))]) H := hP
  have hD : va_D A ([(h0, .inr (6, [.int 0, .long 0, .int 0, .int 0, .int 0, .int 0, .int 0, .ref q1, .ref q2, .int 0, .ref q3, .int 0, .int 0, .ref q4, .int 0, .null, .int 0, .int 0, .int 0, .int 0])), (q1, .inl (G.2.1 2, 2, .inr (.inl (fun _ => 0)))), (q2, .inl (G.2.1 1, 2, .inl (fun _ => 0))), (q3, .inl (G.2.1 1, 4, .inl (fun _ => 0))), (q4, .inl (G.2.1 1, 24, .inl (fun _ => 0))), (q5, .inl (G.2.1 1, 48, .inl (fun _ => 0)))]) := hD
  refine z_putF (k := 15) C rfl inX6 tyX6_ok nmX6 (by decide) fz_X6_25 rfl rfl rfl rfl (Nat.le_of_ble_eq_true rfl) hP hD hS dX6_init_38 (fun H locs hP hD hS => ?_)
  have hP : va_P G.1 vwCl ([(h0, .inr (6, [.int 0, .long 0, .int 0, .int 0, .int 0, .int 0, .int 0, .ref q1, .ref q2, .int 0, .ref q3, .int 0, .int 0, .ref q4, .int 0, .ref q5, .int 0, .int 0, .int 0, .int 0])), (q1, .inl (G.2.1 2, 2, .inr (.inl (fun _ => 0)))), (q2, .inl (G.2.1 1, 2, .inl (fun _ => 0))), (q3, .inl (G.2.1 1, 4, .inl (fun _ => 0))), (q4, .inl (G.2.1 1, 24, .inl (fun _ => 0))), (q5, .inl (G.2.1 1, 48, .inl (fun _ => 0)))]) H := hP
  have hD : va_D A ([(h0, .inr (6, [.int 0, .long 0, .int 0, .int 0, .int 0, .int 0, .int 0, .ref q1, .ref q2, .int 0, .ref q3, .int 0, .int 0, .ref q4, .int 0, .ref q5, .int 0, .int 0, .int 0, .int 0])), (q1, .inl (G.2.1 2, 2, .inr (.inl (fun _ => 0)))), (q2, .inl (G.2.1 1, 2, .inl (fun _ => 0))), (q3, .inl (G.2.1 1, 4, .inl (fun _ => 0))), (q4, .inl (G.2.1 1, 24, .inl (fun _ => 0))), (q5, .inl (G.2.1 1, 48, .inl (fun _ => 0)))]) := hD
  refine lv_aload_n C.1.1 C.1.2.1 dX6_init_41 rfl (lv_at hl 0 rfl) ?_
  refine lv_iload_n C.1.1 C.1.2.1 dX6_init_42 rfl (lv_at hl 1 rfl) ?_
  refine z_putF (k := 0) C rfl inX6 tyX6_ok nmX6 (by decide) fz_X6_28 rfl rfl rfl rfl (Nat.le_of_ble_eq_true rfl) hP hD hS dX6_init_43 (fun H locs hP hD hS => ?_)
  have hP : va_P G.1 vwCl ([(h0, .inr (6, [.int k0, .long 0, .int 0, .int 0, .int 0, .int 0, .int 0, .ref q1, .ref q2, .int 0, .ref q3, .int 0, .int 0, .ref q4, .int 0, .ref q5, .int 0, .int 0, .int 0, .int 0])), (q1, .inl (G.2.1 2, 2, .inr (.inl (fun _ => 0)))), (q2, .inl (G.2.1 1, 2, .inl (fun _ => 0))), (q3, .inl (G.2.1 1, 4, .inl (fun _ => 0))), (q4, .inl (G.2.1 1, 24, .inl (fun _ => 0))), (q5, .inl (G.2.1 1, 48, .inl (fun _ => 0)))]) H := hP
  have hD : va_D A ([(h0, .inr (6, [.int k0, .long 0, .int 0, .int 0, .int 0, .int 0, .int 0, .ref q1, .ref q2, .int 0, .ref q3, .int 0, .int 0, .ref q4, .int 0, .ref q5, .int 0, .int 0, .int 0, .int 0])), (q1, .inl (G.2.1 2, 2, .inr (.inl (fun _ => 0)))), (q2, .inl (G.2.1 1, 2, .inl (fun _ => 0))), (q3, .inl (G.2.1 1, 4, .inl (fun _ => 0))), (q4, .inl (G.2.1 1, 24, .inl (fun _ => 0))), (q5, .inl (G.2.1 1, 48, .inl (fun _ => 0)))]) := hD
  subst hAe
  refine W.widen (k := 5) (n := 80) (by decide) (by decide) ?_
  exact z_ret (ad := fun i => match i with | 1 => q1 | 2 => q2 | 3 => q3 | 4 => q4 | 5 => q5 | _ => 0) (w1 := vX6 G h0 k0) C hP hD hS dX6_init_46
def dX3 : List Value := [.long 0, .int 0, .int 0, .int 0, .int 0, .null, .null, .int 0]
theorem wz_oi3 : Cond.methodLink RX3 3 Lib.objectInit ∈ wT := wu (wtab_1 (List.mem_of_getElem? (i := 152) (by decide +kernel))) rfl
theorem fz_X3_9 : Cond.fieldLink RX3 9 (TX3 5).1 (TX3 5).2.1 (TX3 5).2.2.1 ∈ wT := wu (wtab_1 (List.mem_of_getElem? (i := 174) (by decide +kernel))) rfl
theorem fz_X3_15 : Cond.fieldLink RX3 15 (TX3 6).1 (TX3 6).2.1 (TX3 6).2.2.1 ∈ wT := wu (wtab_1 (List.mem_of_getElem? (i := 178) (by decide +kernel))) rfl
def vX3 (G : GG) (h0 : Nat)  (ad : Nat → Nat) : va_W := [(h0, .inr (3, [.long 0, .int 0, .int 0, .int 0, .int 0, .ref (ad 1), .ref (ad 2), .int 0])), (ad 1, .inl (G.2.1 1, 3, .inl (fun _ => 0))), (ad 2, .inl (G.2.1 1, 3, .inl (fun _ => 0)))]
set_option maxHeartbeats 4000000 in
set_option maxRecDepth 100000 in
theorem z_X3 (l : Launch) (G : GG) (h0 sz : Nat)  : CnZ l yX3_init cX3_init 1 1 14 2 6 G [.ref h0] sz [(h0, .inr (3, dX3))] [] (vX3 G h0 ) := by
  refine cz_body (by decide) rfl (Nat.le_of_ble_eq_true rfl) ?_
  intro p e s m args below meth c ls C hsz hP hD0 hl
  subst hsz
  have hD := (vD_left hD0).self (sz := s.heap.size)
  have hA : ∀ q : Nat, s.heap.size ≤ q → va_A [(h0, .inr (3, dX3))] s.heap.size q := fun q h => Or.inr h
  have hS : va_S (va_A [(h0, .inr (3, dX3))] s.heap.size) s.heap s.heap [] := va_S.rf
  generalize hAe : va_A [(h0, .inr (3, dX3))] s.heap.size = A at hD hA hS
  have hP : va_P G.1 vwCl [(h0, .inr (3, [.long 0, .int 0, .int 0, .int 0, .int 0, .null, .null, .int 0]))] s.heap := hP
  have hD : va_D A [(h0, .inr (3, [.long 0, .int 0, .int 0, .int 0, .int 0, .null, .null, .int 0]))] := hD
  refine lv_aload_n C.1.1 C.1.2.1 dX3_init_0 rfl (lv_at hl 0 rfl) ?_
  refine W.objInit C.1.1 C.1.2.1 C.1.2.2.2.1 (C.1.2.2.2.2 _ wz_oi3) (C.1.2.2.2.2 _ wz_ob1) (C.1.2.2.2.2 _ wz_ob2) rfl (hl.1.trans C.1.2.2.1.symm) rfl dX3_init_1 (Nat.le_of_ble_eq_true rfl) (Nat.le_of_ble_eq_true rfl) ?_
  refine lv_aload_n C.1.1 C.1.2.1 dX3_init_4 rfl (lv_at hl 0 rfl) ?_
  refine lv_iconst (v := 3) C.1.1 C.1.2.1 dX3_init_5 (by decide) ?_
  refine z_newa (j := 1) (cG := G.2.1 1) (N' := 3) (a0 := (3, .inl (fun _ => 0))) C wz_ar1 rfl rfl (fun _ h => h) hP hD hS hA (fun _ => rfl) (by decide) rfl (by decide) (Nat.le_of_ble_eq_true rfl) (Nat.le_of_ble_eq_true rfl) dX3_init_6 (fun q1 H hP hD hS => ?_)
  have hP : va_P G.1 vwCl ([(h0, .inr (3, [.long 0, .int 0, .int 0, .int 0, .int 0, .null, .null, .int 0])), (q1, .inl (G.2.1 1, 3, .inl (fun _ => 0)))]) H := hP
  have hD : va_D A ([(h0, .inr (3, [.long 0, .int 0, .int 0, .int 0, .int 0, .null, .null, .int 0])), (q1, .inl (G.2.1 1, 3, .inl (fun _ => 0)))]) := hD
  refine z_putF (k := 5) C rfl inX3 tyX3_ok nmX3 (by decide) fz_X3_9 rfl rfl rfl rfl (Nat.le_of_ble_eq_true rfl) hP hD hS dX3_init_8 (fun H locs hP hD hS => ?_)
  have hP : va_P G.1 vwCl ([(h0, .inr (3, [.long 0, .int 0, .int 0, .int 0, .int 0, .ref q1, .null, .int 0])), (q1, .inl (G.2.1 1, 3, .inl (fun _ => 0)))]) H := hP
  have hD : va_D A ([(h0, .inr (3, [.long 0, .int 0, .int 0, .int 0, .int 0, .ref q1, .null, .int 0])), (q1, .inl (G.2.1 1, 3, .inl (fun _ => 0)))]) := hD
  refine lv_aload_n C.1.1 C.1.2.1 dX3_init_11 rfl (lv_at hl 0 rfl) ?_
  refine lv_iconst (v := 3) C.1.1 C.1.2.1 dX3_init_12 (by decide) ?_
  refine z_newa (j := 1) (cG := G.2.1 1) (N' := 3) (a0 := (3, .inl (fun _ => 0))) C wz_ar1 rfl rfl (fun _ h => h) hP hD hS hA (fun _ => rfl) (by decide) rfl (by decide) (Nat.le_of_ble_eq_true rfl) (Nat.le_of_ble_eq_true rfl) dX3_init_13 (fun q2 H hP hD hS => ?_)
  have hP : va_P G.1 vwCl ([(h0, .inr (3, [.long 0, .int 0, .int 0, .int 0, .int 0, .ref q1, .null, .int 0])), (q1, .inl (G.2.1 1, 3, .inl (fun _ => 0))), (q2, .inl (G.2.1 1, 3, .inl (fun _ => 0)))]) H := hP
  have hD : va_D A ([(h0, .inr (3, [.long 0, .int 0, .int 0, .int 0, .int 0, .ref q1, .null, .int 0])), (q1, .inl (G.2.1 1, 3, .inl (fun _ => 0))), (q2, .inl (G.2.1 1, 3, .inl (fun _ => 0)))]) := hD
  refine z_putF (k := 6) C rfl inX3 tyX3_ok nmX3 (by decide) fz_X3_15 rfl rfl rfl rfl (Nat.le_of_ble_eq_true rfl) hP hD hS dX3_init_15 (fun H locs hP hD hS => ?_)
  have hP : va_P G.1 vwCl ([(h0, .inr (3, [.long 0, .int 0, .int 0, .int 0, .int 0, .ref q1, .ref q2, .int 0])), (q1, .inl (G.2.1 1, 3, .inl (fun _ => 0))), (q2, .inl (G.2.1 1, 3, .inl (fun _ => 0)))]) H := hP
  have hD : va_D A ([(h0, .inr (3, [.long 0, .int 0, .int 0, .int 0, .int 0, .ref q1, .ref q2, .int 0])), (q1, .inl (G.2.1 1, 3, .inl (fun _ => 0))), (q2, .inl (G.2.1 1, 3, .inl (fun _ => 0)))]) := hD
  subst hAe
  refine W.widen (k := 2) (n := 6) (by decide) (by decide) ?_
  exact z_ret (ad := fun i => match i with | 1 => q1 | 2 => q2 | _ => 0) (w1 := vX3 G h0 ) C hP hD hS dX3_init_18
def dX5 : List Value := [.null, .null, .null, .int 0, .int 0]
theorem wz_oi5 : Cond.methodLink RX5 3 Lib.objectInit ∈ wT := wu (wtab_2 (List.mem_of_getElem? (i := 19) (by decide +kernel))) rfl
theorem fz_X5_9 : Cond.fieldLink RX5 9 (TX5 0).1 (TX5 0).2.1 (TX5 0).2.2.1 ∈ wT := wu (wtab_2 (List.mem_of_getElem? (i := 20) (by decide +kernel))) rfl
theorem fz_X5_15 : Cond.fieldLink RX5 15 (TX5 1).1 (TX5 1).2.1 (TX5 1).2.2.1 ∈ wT := wu (wtab_2 (List.mem_of_getElem? (i := 22) (by decide +kernel))) rfl
theorem fz_X5_19 : Cond.fieldLink RX5 19 (TX5 2).1 (TX5 2).2.1 (TX5 2).2.2.1 ∈ wT := wu (wtab_2 (List.mem_of_getElem? (i := 24) (by decide +kernel))) rfl
def vX5 (G : GG) (h0 : Nat)  (ad : Nat → Nat) : va_W := [(h0, .inr (5, [.ref (ad 1), .ref (ad 2), .ref (ad 3), .int 0, .int 0])), (ad 1, .inl (G.2.1 1, 4001, .inl (fun _ => 0))), (ad 2, .inl (G.2.1 2, 4001, .inr (.inl (fun _ => 0)))), (ad 3, .inl (G.2.1 1, 4001, .inl (fun _ => 0)))]
set_option maxHeartbeats 4000000 in
set_option maxRecDepth 100000 in
theorem z_X5 (l : Launch) (G : GG) (h0 sz : Nat)  : CnZ l yX5_init cX5_init 1 1 14 3 12003 G [.ref h0] sz [(h0, .inr (5, dX5))] [] (vX5 G h0 ) := by
  refine cz_body (by decide) rfl (Nat.le_of_ble_eq_true rfl) ?_
  intro p e s m args below meth c ls C hsz hP hD0 hl
  subst hsz
  have hD := (vD_left hD0).self (sz := s.heap.size)
  have hA : ∀ q : Nat, s.heap.size ≤ q → va_A [(h0, .inr (5, dX5))] s.heap.size q := fun q h => Or.inr h
  have hS : va_S (va_A [(h0, .inr (5, dX5))] s.heap.size) s.heap s.heap [] := va_S.rf
  generalize hAe : va_A [(h0, .inr (5, dX5))] s.heap.size = A at hD hA hS
  have hP : va_P G.1 vwCl [(h0, .inr (5, [.null, .null, .null, .int 0, .int 0]))] s.heap := hP
  have hD : va_D A [(h0, .inr (5, [.null, .null, .null, .int 0, .int 0]))] := hD
  refine lv_aload_n C.1.1 C.1.2.1 dX5_init_0 rfl (lv_at hl 0 rfl) ?_
  refine W.objInit C.1.1 C.1.2.1 C.1.2.2.2.1 (C.1.2.2.2.2 _ wz_oi5) (C.1.2.2.2.2 _ wz_ob1) (C.1.2.2.2.2 _ wz_ob2) rfl (hl.1.trans C.1.2.2.1.symm) rfl dX5_init_1 (Nat.le_of_ble_eq_true rfl) (Nat.le_of_ble_eq_true rfl) ?_
  refine lv_aload_n C.1.1 C.1.2.1 dX5_init_4 rfl (lv_at hl 0 rfl) ?_
  refine lv_sipush (v := 4001) C.1.1 C.1.2.1 dX5_init_5 (by decide) ?_
  refine z_newa (j := 1) (cG := G.2.1 1) (N' := 4001) (a0 := (4001, .inl (fun _ => 0))) C wz_ar1 rfl rfl (fun _ h => h) hP hD hS hA (fun _ => rfl) (by decide) rfl (by decide) (Nat.le_of_ble_eq_true rfl) (Nat.le_of_ble_eq_true rfl) dX5_init_8 (fun q1 H hP hD hS => ?_)
  have hP : va_P G.1 vwCl ([(h0, .inr (5, [.null, .null, .null, .int 0, .int 0])), (q1, .inl (G.2.1 1, 4001, .inl (fun _ => 0)))]) H := hP
  have hD : va_D A ([(h0, .inr (5, [.null, .null, .null, .int 0, .int 0])), (q1, .inl (G.2.1 1, 4001, .inl (fun _ => 0)))]) := hD
  refine z_putF (k := 0) C rfl inX5 tyX5_ok nmX5 (by decide) fz_X5_9 rfl rfl rfl rfl (Nat.le_of_ble_eq_true rfl) hP hD hS dX5_init_10 (fun H locs hP hD hS => ?_)
  have hP : va_P G.1 vwCl ([(h0, .inr (5, [.ref q1, .null, .null, .int 0, .int 0])), (q1, .inl (G.2.1 1, 4001, .inl (fun _ => 0)))]) H := hP
  have hD : va_D A ([(h0, .inr (5, [.ref q1, .null, .null, .int 0, .int 0])), (q1, .inl (G.2.1 1, 4001, .inl (fun _ => 0)))]) := hD
  refine lv_aload_n C.1.1 C.1.2.1 dX5_init_13 rfl (lv_at hl 0 rfl) ?_
  refine lv_sipush (v := 4001) C.1.1 C.1.2.1 dX5_init_14 (by decide) ?_
  refine z_newa (j := 2) (cG := G.2.1 2) (N' := 4001) (a0 := (4001, .inr (.inl (fun _ => 0)))) C wz_ar2 rfl rfl (fun _ h => h) hP hD hS hA (fun _ => rfl) (by decide) rfl (by decide) (Nat.le_of_ble_eq_true rfl) (Nat.le_of_ble_eq_true rfl) dX5_init_17 (fun q2 H hP hD hS => ?_)
  have hP : va_P G.1 vwCl ([(h0, .inr (5, [.ref q1, .null, .null, .int 0, .int 0])), (q1, .inl (G.2.1 1, 4001, .inl (fun _ => 0))), (q2, .inl (G.2.1 2, 4001, .inr (.inl (fun _ => 0))))]) H := hP
  have hD : va_D A ([(h0, .inr (5, [.ref q1, .null, .null, .int 0, .int 0])), (q1, .inl (G.2.1 1, 4001, .inl (fun _ => 0))), (q2, .inl (G.2.1 2, 4001, .inr (.inl (fun _ => 0))))]) := hD
  refine z_putF (k := 1) C rfl inX5 tyX5_ok nmX5 (by decide) fz_X5_15 rfl rfl rfl rfl (Nat.le_of_ble_eq_true rfl) hP hD hS dX5_init_19 (fun H locs hP hD hS => ?_)
  have hP : va_P G.1 vwCl ([(h0, .inr (5, [.ref q1, .ref q2, .null, .int 0, .int 0])), (q1, .inl (G.2.1 1, 4001, .inl (fun _ => 0))), (q2, .inl (G.2.1 2, 4001, .inr (.inl (fun _ => 0))))]) H := hP
  have hD : va_D A ([(h0, .inr (5, [.ref q1, .ref q2, .null, .int 0, .int 0])), (q1, .inl (G.2.1 1, 4001, .inl (fun _ => 0))), (q2, .inl (G.2.1 2, 4001, .inr (.inl (fun _ => 0))))]) := hD
  refine lv_aload_n C.1.1 C.1.2.1 dX5_init_22 rfl (lv_at hl 0 rfl) ?_
  refine lv_sipush (v := 4001) C.1.1 C.1.2.1 dX5_init_23 (by decide) ?_
  refine z_newa (j := 1) (cG := G.2.1 1) (N' := 4001) (a0 := (4001, .inl (fun _ => 0))) C wz_ar1 rfl rfl (fun _ h => h) hP hD hS hA (fun _ => rfl) (by decide) rfl (by decide) (Nat.le_of_ble_eq_true rfl) (Nat.le_of_ble_eq_true rfl) dX5_init_26 (fun q3 H hP hD hS => ?_)
  have hP : va_P G.1 vwCl ([(h0, .inr (5, [.ref q1, .ref q2, .null, .int 0, .int 0])), (q1, .inl (G.2.1 1, 4001, .inl (fun _ => 0))), (q2, .inl (G.2.1 2, 4001, .inr (.inl (fun _ => 0)))), (q3, .inl (G.2.1 1, 4001, .inl (fun _ => 0)))]) H := hP
  have hD : va_D A ([(h0, .inr (5, [.ref q1, .ref q2, .null, .int 0, .int 0])), (q1, .inl (G.2.1 1, 4001, .inl (fun _ => 0))), (q2, .inl (G.2.1 2, 4001, .inr (.inl (fun _ => 0)))), (q3, .inl (G.2.1 1, 4001, .inl (fun _ => 0)))]) := hD
  refine z_putF (k := 2) C rfl inX5 tyX5_ok nmX5 (by decide) fz_X5_19 rfl rfl rfl rfl (Nat.le_of_ble_eq_true rfl) hP hD hS dX5_init_28 (fun H locs hP hD hS => ?_)
  have hP : va_P G.1 vwCl ([(h0, .inr (5, [.ref q1, .ref q2, .ref q3, .int 0, .int 0])), (q1, .inl (G.2.1 1, 4001, .inl (fun _ => 0))), (q2, .inl (G.2.1 2, 4001, .inr (.inl (fun _ => 0)))), (q3, .inl (G.2.1 1, 4001, .inl (fun _ => 0)))]) H := hP
  have hD : va_D A ([(h0, .inr (5, [.ref q1, .ref q2, .ref q3, .int 0, .int 0])), (q1, .inl (G.2.1 1, 4001, .inl (fun _ => 0))), (q2, .inl (G.2.1 2, 4001, .inr (.inl (fun _ => 0)))), (q3, .inl (G.2.1 1, 4001, .inl (fun _ => 0)))]) := hD
  subst hAe
  refine W.widen (k := 3) (n := 12003) (by decide) (by decide) ?_
  exact z_ret (ad := fun i => match i with | 1 => q1 | 2 => q2 | 3 => q3 | _ => 0) (w1 := vX5 G h0 ) C hP hD hS dX5_init_31
def dX1 : List Value := [.null, .null, .int 0, .null, .null, .null, .int 0, .int 0]
theorem wz_oi1 : Cond.methodLink RX1 3 Lib.objectInit ∈ wT := wu (wtab_2 (List.mem_of_getElem? (i := 121) (by decide +kernel))) rfl
theorem fz_X1_9 : Cond.fieldLink RX1 9 (TX1 1).1 (TX1 1).2.1 (TX1 1).2.2.1 ∈ wT := wu (wtab_2 (List.mem_of_getElem? (i := 123) (by decide +kernel))) rfl
theorem fz_X1_15 : Cond.fieldLink RX1 15 (TX1 3).1 (TX1 3).2.1 (TX1 3).2.2.1 ∈ wT := wu (wtab_2 (List.mem_of_getElem? (i := 125) (by decide +kernel))) rfl
theorem fz_X1_18 : Cond.fieldLink RX1 18 (TX1 4).1 (TX1 4).2.1 (TX1 4).2.2.1 ∈ wT := wu (wtab_2 (List.mem_of_getElem? (i := 126) (by decide +kernel))) rfl
theorem fz_X1_21 : Cond.fieldLink RX1 21 (TX1 5).1 (TX1 5).2.1 (TX1 5).2.2.1 ∈ wT := wu (wtab_2 (List.mem_of_getElem? (i := 127) (by decide +kernel))) rfl
theorem fz_X1_25 : Cond.fieldLink RX1 25 (TX1 0).1 (TX1 0).2.1 (TX1 0).2.2.1 ∈ wT := wu (wtab_2 (List.mem_of_getElem? (i := 122) (by decide +kernel))) rfl
def vX1 (G : GG) (h0 : Nat) (f0 : Nat) (ad : Nat → Nat) : va_W := [(h0, .inr (1, [.ref f0, .ref (ad 1), .int 0, .ref (ad 2), .ref (ad 3), .ref (ad 4), .int 0, .int 0])), (ad 1, .inl (G.2.1 1, 24, .inl (fun _ => 0))), (ad 2, .inl (G.2.1 1, 24, .inl (fun _ => 0))), (ad 3, .inl (G.2.1 1, 24, .inl (fun _ => 0))), (ad 4, .inl (G.2.1 3, 24, .inl (fun _ => 0)))]
set_option maxHeartbeats 4000000 in
set_option maxRecDepth 100000 in
theorem z_X1 (l : Launch) (G : GG) (h0 sz : Nat) (f0 : Nat) : CnZ l yX1_init cX1_init 2 1 14 4 96 G [.ref h0, .ref f0] sz [(h0, .inr (1, dX1))] [] (vX1 G h0 f0) := by
  refine cz_body (by decide) rfl (Nat.le_of_ble_eq_true rfl) ?_
  intro p e s m args below meth c ls C hsz hP hD0 hl
  subst hsz
  have hD := (vD_left hD0).self (sz := s.heap.size)
  have hA : ∀ q : Nat, s.heap.size ≤ q → va_A [(h0, .inr (1, dX1))] s.heap.size q := fun q h => Or.inr h
  have hS : va_S (va_A [(h0, .inr (1, dX1))] s.heap.size) s.heap s.heap [] := va_S.rf
  generalize hAe : va_A [(h0, .inr (1, dX1))] s.heap.size = A at hD hA hS
  have hP : va_P G.1 vwCl [(h0, .inr (1, [.null, .null, .int 0, .null, .null, .null, .int 0, .int 0]))] s.heap := hP
  have hD : va_D A [(h0, .inr (1, [.null, .null, .int 0, .null, .null, .null, .int 0, .int 0]))] := hD
  refine lv_aload_n C.1.1 C.1.2.1 dX1_init_0 rfl (lv_at hl 0 rfl) ?_
  refine W.objInit C.1.1 C.1.2.1 C.1.2.2.2.1 (C.1.2.2.2.2 _ wz_oi1) (C.1.2.2.2.2 _ wz_ob1) (C.1.2.2.2.2 _ wz_ob2) rfl (hl.1.trans C.1.2.2.1.symm) rfl dX1_init_1 (Nat.le_of_ble_eq_true rfl) (Nat.le_of_ble_eq_true rfl) ?_
  refine lv_aload_n C.1.1 C.1.2.1 dX1_init_4 rfl (lv_at hl 0 rfl) ?_
  refine lv_bipush (v := 24) C.1.1 C.1.2.1 dX1_init_5 (by decide) ?_
  refine z_newa (j := 1) (cG := G.2.1 1) (N' := 24) (a0 := (24, .inl (fun _ => 0))) C wz_ar1 rfl rfl (fun _ h => h) hP hD hS hA (fun _ => rfl) (by decide) rfl (by decide) (Nat.le_of_ble_eq_true rfl) (Nat.le_of_ble_eq_true rfl) dX1_init_7 (fun q1 H hP hD hS => ?_)
  have hP : va_P G.1 vwCl ([(h0, .inr (1, [.null, .null, .int 0, .null, .null, .null, .int 0, .int 0])), (q1, .inl (G.2.1 1, 24, .inl (fun _ => 0)))]) H := hP
  have hD : va_D A ([(h0, .inr (1, [.null, .null, .int 0, .null, .null, .null, .int 0, .int 0])), (q1, .inl (G.2.1 1, 24, .inl (fun _ => 0)))]) := hD
  refine z_putF (k := 1) C rfl inX1 tyX1_ok nmX1 (by decide) fz_X1_9 rfl rfl rfl rfl (Nat.le_of_ble_eq_true rfl) hP hD hS dX1_init_9 (fun H locs hP hD hS => ?_)
  have hP : va_P G.1 vwCl ([(h0, .inr (1, [.null, .ref q1, .int 0, .null, .null, .null, .int 0, .int 0])), (q1, .inl (G.2.1 1, 24, .inl (fun _ => 0)))]) H := hP
  have hD : va_D A ([(h0, .inr (1, [.null, .ref q1, .int 0, .null, .null, .null, .int 0, .int 0])), (q1, .inl (G.2.1 1, 24, .inl (fun _ => 0)))]) := hD
  refine lv_aload_n C.1.1 C.1.2.1 dX1_init_12 rfl (lv_at hl 0 rfl) ?_
  refine lv_bipush (v := 24) C.1.1 C.1.2.1 dX1_init_13 (by decide) ?_
  refine z_newa (j := 1) (cG := G.2.1 1) (N' := 24) (a0 := (24, .inl (fun _ => 0))) C wz_ar1 rfl rfl (fun _ h => h) hP hD hS hA (fun _ => rfl) (by decide) rfl (by decide) (Nat.le_of_ble_eq_true rfl) (Nat.le_of_ble_eq_true rfl) dX1_init_15 (fun q2 H hP hD hS => ?_)
  have hP : va_P G.1 vwCl ([(h0, .inr (1, [.null, .ref q1, .int 0, .null, .null, .null, .int 0, .int 0])), (q1, .inl (G.2.1 1, 24, .inl (fun _ => 0))), (q2, .inl (G.2.1 1, 24, .inl (fun _ => 0)))]) H := hP
  have hD : va_D A ([(h0, .inr (1, [.null, .ref q1, .int 0, .null, .null, .null, .int 0, .int 0])), (q1, .inl (G.2.1 1, 24, .inl (fun _ => 0))), (q2, .inl (G.2.1 1, 24, .inl (fun _ => 0)))]) := hD
  refine z_putF (k := 3) C rfl inX1 tyX1_ok nmX1 (by decide) fz_X1_15 rfl rfl rfl rfl (Nat.le_of_ble_eq_true rfl) hP hD hS dX1_init_17 (fun H locs hP hD hS => ?_)
  have hP : va_P G.1 vwCl ([(h0, .inr (1, [.null, .ref q1, .int 0, .ref q2, .null, .null, .int 0, .int 0])), (q1, .inl (G.2.1 1, 24, .inl (fun _ => 0))), (q2, .inl (G.2.1 1, 24, .inl (fun _ => 0)))]) H := hP
  have hD : va_D A ([(h0, .inr (1, [.null, .ref q1, .int 0, .ref q2, .null, .null, .int 0, .int 0])), (q1, .inl (G.2.1 1, 24, .inl (fun _ => 0))), (q2, .inl (G.2.1 1, 24, .inl (fun _ => 0)))]) := hD
  refine lv_aload_n C.1.1 C.1.2.1 dX1_init_20 rfl (lv_at hl 0 rfl) ?_
  refine lv_bipush (v := 24) C.1.1 C.1.2.1 dX1_init_21 (by decide) ?_
  refine z_newa (j := 1) (cG := G.2.1 1) (N' := 24) (a0 := (24, .inl (fun _ => 0))) C wz_ar1 rfl rfl (fun _ h => h) hP hD hS hA (fun _ => rfl) (by decide) rfl (by decide) (Nat.le_of_ble_eq_true rfl) (Nat.le_of_ble_eq_true rfl) dX1_init_23 (fun q3 H hP hD hS => ?_)
  have hP : va_P G.1 vwCl ([(h0, .inr (1, [.null, .ref q1, .int 0, .ref q2, .null, .null, .int 0, .int 0])), (q1, .inl (G.2.1 1, 24, .inl (fun _ => 0))), (q2, .inl (G.2.1 1, 24, .inl (fun _ => 0))), (q3, .inl (G.2.1 1, 24, .inl (fun _ => 0)))]) H := hP
  have hD : va_D A ([(h0, .inr (1, [.null, .ref q1, .int 0, .ref q2, .null, .null, .int 0, .int 0])), (q1, .inl (G.2.1 1, 24, .inl (fun _ => 0))), (q2, .inl (G.2.1 1, 24, .inl (fun _ => 0))), (q3, .inl (G.2.1 1, 24, .inl (fun _ => 0)))]) := hD
  refine z_putF (k := 4) C rfl inX1 tyX1_ok nmX1 (by decide) fz_X1_18 rfl rfl rfl rfl (Nat.le_of_ble_eq_true rfl) hP hD hS dX1_init_25 (fun H locs hP hD hS => ?_)
  have hP : va_P G.1 vwCl ([(h0, .inr (1, [.null, .ref q1, .int 0, .ref q2, .ref q3, .null, .int 0, .int 0])), (q1, .inl (G.2.1 1, 24, .inl (fun _ => 0))), (q2, .inl (G.2.1 1, 24, .inl (fun _ => 0))), (q3, .inl (G.2.1 1, 24, .inl (fun _ => 0)))]) H := hP
  have hD : va_D A ([(h0, .inr (1, [.null, .ref q1, .int 0, .ref q2, .ref q3, .null, .int 0, .int 0])), (q1, .inl (G.2.1 1, 24, .inl (fun _ => 0))), (q2, .inl (G.2.1 1, 24, .inl (fun _ => 0))), (q3, .inl (G.2.1 1, 24, .inl (fun _ => 0)))]) := hD
  refine lv_aload_n C.1.1 C.1.2.1 dX1_init_28 rfl (lv_at hl 0 rfl) ?_
  refine lv_bipush (v := 24) C.1.1 C.1.2.1 dX1_init_29 (by decide) ?_
  refine z_newa (j := 3) (cG := G.2.1 3) (N' := 24) (a0 := (24, .inl (fun _ => 0))) C wz_ar3 rfl rfl (fun _ h => h) hP hD hS hA (fun _ => rfl) (by decide) rfl (by decide) (Nat.le_of_ble_eq_true rfl) (Nat.le_of_ble_eq_true rfl) dX1_init_31 (fun q4 H hP hD hS => ?_)
  have hP : va_P G.1 vwCl ([(h0, .inr (1, [.null, .ref q1, .int 0, .ref q2, .ref q3, .null, .int 0, .int 0])), (q1, .inl (G.2.1 1, 24, .inl (fun _ => 0))), (q2, .inl (G.2.1 1, 24, .inl (fun _ => 0))), (q3, .inl (G.2.1 1, 24, .inl (fun _ => 0))), (q4, .inl (G.2.1 3, 24, .inl (fun _ => 0)))]) H := hP
  have hD : va_D A ([(h0, .inr (1, [.null, .ref q1, .int 0, .ref q2, .ref q3, .null, .int 0, .int 0])), (q1, .inl (G.2.1 1, 24, .inl (fun _ => 0))), (q2, .inl (G.2.1 1, 24, .inl (fun _ => 0))), (q3, .inl (G.2.1 1, 24, .inl (fun _ => 0))), (q4, .inl (G.2.1 3, 24, .inl (fun _ => 0)))]) := hD
  refine z_putF (k := 5) C rfl inX1 tyX1_ok nmX1 (by decide) fz_X1_21 rfl rfl rfl rfl (Nat.le_of_ble_eq_true rfl) hP hD hS dX1_init_33 (fun H locs hP hD hS => ?_)
  have hP : va_P G.1 vwCl ([(h0, .inr (1, [.null, .ref q1, .int 0, .ref q2, .ref q3, .ref q4, .int 0, .int 0])), (q1, .inl (G.2.1 1, 24, .inl (fun _ => 0))), (q2, .inl (G.2.1 1, 24, .inl (fun _ => 0))), (q3, .inl (G.2.1 1, 24, .inl (fun _ => 0))), (q4, .inl (G.2.1 3, 24, .inl (fun _ => 0)))]) H := hP
  have hD : va_D A ([(h0, .inr (1, [.null, .ref q1, .int 0, .ref q2, .ref q3, .ref q4, .int 0, .int 0])), (q1, .inl (G.2.1 1, 24, .inl (fun _ => 0))), (q2, .inl (G.2.1 1, 24, .inl (fun _ => 0))), (q3, .inl (G.2.1 1, 24, .inl (fun _ => 0))), (q4, .inl (G.2.1 3, 24, .inl (fun _ => 0)))]) := hD
  refine lv_aload_n C.1.1 C.1.2.1 dX1_init_36 rfl (lv_at hl 0 rfl) ?_
  refine lv_aload_n C.1.1 C.1.2.1 dX1_init_37 rfl (lv_at hl 1 rfl) ?_
  refine z_put (k := 0) C rfl inX1 tyX1_ok nmX1 (by decide) fz_X1_25 rfl rfl rfl (Nat.le_of_ble_eq_true rfl) hP hD hS dX1_init_38 (fun H locs hP hD hS => ?_)
  have hP : va_P G.1 vwCl ([(h0, .inr (1, [.ref f0, .ref q1, .int 0, .ref q2, .ref q3, .ref q4, .int 0, .int 0])), (q1, .inl (G.2.1 1, 24, .inl (fun _ => 0))), (q2, .inl (G.2.1 1, 24, .inl (fun _ => 0))), (q3, .inl (G.2.1 1, 24, .inl (fun _ => 0))), (q4, .inl (G.2.1 3, 24, .inl (fun _ => 0)))]) H := hP
  have hD : va_D A ([(h0, .inr (1, [.ref f0, .ref q1, .int 0, .ref q2, .ref q3, .ref q4, .int 0, .int 0])), (q1, .inl (G.2.1 1, 24, .inl (fun _ => 0))), (q2, .inl (G.2.1 1, 24, .inl (fun _ => 0))), (q3, .inl (G.2.1 1, 24, .inl (fun _ => 0))), (q4, .inl (G.2.1 3, 24, .inl (fun _ => 0)))]) := hD
  subst hAe
  refine W.widen (k := 4) (n := 96) (by decide) (by decide) ?_
  exact z_ret (ad := fun i => match i with | 1 => q1 | 2 => q2 | 3 => q3 | 4 => q4 | _ => 0) (w1 := vX1 G h0 f0) C hP hD hS dX1_init_41
