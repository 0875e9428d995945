/-! the reference's constructor, printed by program -/
def dX8 : List Value := [.null, .int 0, .int 0, .null, .int 0, .int 0, .int 0, .long 0, .int 0, .int 0, .int 0, .int 0, .null, .null, .null, .null, .null, .null, .null, .null, .null, .null, .null, .null, .null, .null, .null, .null, .null, .null, .null, .null, .null, .null, .null, .null, .null, .null, .null, .null, .null, .null, .null, .null, .null, .null, .int 0, .int 0, .int 0, .null, .int 0, .null, .int 0, .int 0, .int 0, .null, .int 0, .null, .int 0, .int 0]
theorem wz_oi8 : Cond.methodLink RX8 1 Lib.objectInit ∈ wT := wu (wtab_5 (List.mem_of_getElem? (i := 24) (by decide +kernel))) rfl
theorem fz_X8_7 : Cond.fieldLink RX8 7 (TX8 0).1 (TX8 0).2.1 (TX8 0).2.2.1 ∈ wT := wu (wtab_5 (List.mem_of_getElem? (i := 39) (by decide +kernel))) rfl
theorem fz_X8_41 : Cond.fieldLink RX8 41 (TX8 3).1 (TX8 3).2.1 (TX8 3).2.2.1 ∈ wT := wu (wtab_5 (List.mem_of_getElem? (i := 42) (by decide +kernel))) rfl
def wX8 : Nat → Int64 := (vp_updL (vp_updL (vp_updL (vp_updL (vp_updL (vp_updL (vp_updL (vp_updL (vp_updL (vp_updL (vp_updL (vp_updL (vp_updL (vp_updL (fun _ => 0) 0 1885430635) 1 119225631139186) 2 427020088179) 3 1717658469) 4 28518) 5 504363246962) 6 1869636974) 7 1852137842) 8 7305070) 9 126943688419683) 10 7017298113369039732) 11 1818586740) 12 6909556) 13 1852796517)
theorem fz_X8_45 : Cond.fieldLink RX8 45 (TX8 12).1 (TX8 12).2.1 (TX8 12).2.2.1 ∈ wT := wu (wtab_5 (List.mem_of_getElem? (i := 51) (by decide +kernel))) rfl
theorem fz_X8_49 : Cond.fieldLink RX8 49 (TX8 13).1 (TX8 13).2.1 (TX8 13).2.2.1 ∈ wT := wu (wtab_5 (List.mem_of_getElem? (i := 52) (by decide +kernel))) rfl
theorem fz_X8_52 : Cond.fieldLink RX8 52 (TX8 14).1 (TX8 14).2.1 (TX8 14).2.2.1 ∈ wT := wu (wtab_5 (List.mem_of_getElem? (i := 53) (by decide +kernel))) rfl
theorem fz_X8_55 : Cond.fieldLink RX8 55 (TX8 15).1 (TX8 15).2.1 (TX8 15).2.2.1 ∈ wT := wu (wtab_5 (List.mem_of_getElem? (i := 54) (by decide +kernel))) rfl
theorem fz_X8_58 : Cond.fieldLink RX8 58 (TX8 16).1 (TX8 16).2.1 (TX8 16).2.2.1 ∈ wT := wu (wtab_5 (List.mem_of_getElem? (i := 55) (by decide +kernel))) rfl
theorem fz_X8_61 : Cond.fieldLink RX8 61 (TX8 17).1 (TX8 17).2.1 (TX8 17).2.2.1 ∈ wT := wu (wtab_5 (List.mem_of_getElem? (i := 56) (by decide +kernel))) rfl
theorem fz_X8_64 : Cond.fieldLink RX8 64 (TX8 18).1 (TX8 18).2.1 (TX8 18).2.2.1 ∈ wT := wu (wtab_5 (List.mem_of_getElem? (i := 57) (by decide +kernel))) rfl
theorem fz_X8_67 : Cond.fieldLink RX8 67 (TX8 19).1 (TX8 19).2.1 (TX8 19).2.2.1 ∈ wT := wu (wtab_5 (List.mem_of_getElem? (i := 58) (by decide +kernel))) rfl
theorem fz_X8_70 : Cond.fieldLink RX8 70 (TX8 20).1 (TX8 20).2.1 (TX8 20).2.2.1 ∈ wT := wu (wtab_5 (List.mem_of_getElem? (i := 59) (by decide +kernel))) rfl
theorem fz_X8_73 : Cond.fieldLink RX8 73 (TX8 21).1 (TX8 21).2.1 (TX8 21).2.2.1 ∈ wT := wu (wtab_5 (List.mem_of_getElem? (i := 60) (by decide +kernel))) rfl
theorem fz_X8_76 : Cond.fieldLink RX8 76 (TX8 22).1 (TX8 22).2.1 (TX8 22).2.2.1 ∈ wT := wu (wtab_5 (List.mem_of_getElem? (i := 61) (by decide +kernel))) rfl
theorem fz_X8_79 : Cond.fieldLink RX8 79 (TX8 23).1 (TX8 23).2.1 (TX8 23).2.2.1 ∈ wT := wu (wtab_5 (List.mem_of_getElem? (i := 62) (by decide +kernel))) rfl
theorem fz_X8_82 : Cond.fieldLink RX8 82 (TX8 24).1 (TX8 24).2.1 (TX8 24).2.2.1 ∈ wT := wu (wtab_5 (List.mem_of_getElem? (i := 63) (by decide +kernel))) rfl
theorem fz_X8_85 : Cond.fieldLink RX8 85 (TX8 25).1 (TX8 25).2.1 (TX8 25).2.2.1 ∈ wT := wu (wtab_5 (List.mem_of_getElem? (i := 64) (by decide +kernel))) rfl
theorem fz_X8_88 : Cond.fieldLink RX8 88 (TX8 26).1 (TX8 26).2.1 (TX8 26).2.2.1 ∈ wT := wu (wtab_5 (List.mem_of_getElem? (i := 65) (by decide +kernel))) rfl
theorem fz_X8_91 : Cond.fieldLink RX8 91 (TX8 27).1 (TX8 27).2.1 (TX8 27).2.2.1 ∈ wT := wu (wtab_5 (List.mem_of_getElem? (i := 66) (by decide +kernel))) rfl
theorem fz_X8_94 : Cond.fieldLink RX8 94 (TX8 28).1 (TX8 28).2.1 (TX8 28).2.2.1 ∈ wT := wu (wtab_5 (List.mem_of_getElem? (i := 67) (by decide +kernel))) rfl
theorem fz_X8_97 : Cond.fieldLink RX8 97 (TX8 29).1 (TX8 29).2.1 (TX8 29).2.2.1 ∈ wT := wu (wtab_5 (List.mem_of_getElem? (i := 68) (by decide +kernel))) rfl
theorem fz_X8_100 : Cond.fieldLink RX8 100 (TX8 30).1 (TX8 30).2.1 (TX8 30).2.2.1 ∈ wT := wu (wtab_5 (List.mem_of_getElem? (i := 69) (by decide +kernel))) rfl
theorem fz_X8_103 : Cond.fieldLink RX8 103 (TX8 31).1 (TX8 31).2.1 (TX8 31).2.2.1 ∈ wT := wu (wtab_5 (List.mem_of_getElem? (i := 70) (by decide +kernel))) rfl
theorem fz_X8_107 : Cond.fieldLink RX8 107 (TX8 32).1 (TX8 32).2.1 (TX8 32).2.2.1 ∈ wT := wu (wtab_5 (List.mem_of_getElem? (i := 71) (by decide +kernel))) rfl
theorem fz_X8_110 : Cond.fieldLink RX8 110 (TX8 33).1 (TX8 33).2.1 (TX8 33).2.2.1 ∈ wT := wu (wtab_5 (List.mem_of_getElem? (i := 72) (by decide +kernel))) rfl
theorem fz_X8_113 : Cond.fieldLink RX8 113 (TX8 34).1 (TX8 34).2.1 (TX8 34).2.2.1 ∈ wT := wu (wtab_5 (List.mem_of_getElem? (i := 73) (by decide +kernel))) rfl
theorem fz_X8_116 : Cond.fieldLink RX8 116 (TX8 35).1 (TX8 35).2.1 (TX8 35).2.2.1 ∈ wT := wu (wtab_5 (List.mem_of_getElem? (i := 74) (by decide +kernel))) rfl
theorem fz_X8_119 : Cond.fieldLink RX8 119 (TX8 36).1 (TX8 36).2.1 (TX8 36).2.2.1 ∈ wT := wu (wtab_5 (List.mem_of_getElem? (i := 75) (by decide +kernel))) rfl
theorem fz_X8_122 : Cond.fieldLink RX8 122 (TX8 37).1 (TX8 37).2.1 (TX8 37).2.2.1 ∈ wT := wu (wtab_5 (List.mem_of_getElem? (i := 76) (by decide +kernel))) rfl
theorem fz_X8_125 : Cond.fieldLink RX8 125 (TX8 38).1 (TX8 38).2.1 (TX8 38).2.2.1 ∈ wT := wu (wtab_5 (List.mem_of_getElem? (i := 77) (by decide +kernel))) rfl
theorem fz_X8_128 : Cond.fieldLink RX8 128 (TX8 39).1 (TX8 39).2.1 (TX8 39).2.2.1 ∈ wT := wu (wtab_5 (List.mem_of_getElem? (i := 78) (by decide +kernel))) rfl
theorem fz_X8_131 : Cond.fieldLink RX8 131 (TX8 40).1 (TX8 40).2.1 (TX8 40).2.2.1 ∈ wT := wu (wtab_5 (List.mem_of_getElem? (i := 79) (by decide +kernel))) rfl
theorem fz_X8_134 : Cond.fieldLink RX8 134 (TX8 41).1 (TX8 41).2.1 (TX8 41).2.2.1 ∈ wT := wu (wtab_5 (List.mem_of_getElem? (i := 80) (by decide +kernel))) rfl
theorem fz_X8_137 : Cond.fieldLink RX8 137 (TX8 42).1 (TX8 42).2.1 (TX8 42).2.2.1 ∈ wT := wu (wtab_5 (List.mem_of_getElem? (i := 81) (by decide +kernel))) rfl
theorem fz_X8_140 : Cond.fieldLink RX8 140 (TX8 43).1 (TX8 43).2.1 (TX8 43).2.2.1 ∈ wT := wu (wtab_5 (List.mem_of_getElem? (i := 82) (by decide +kernel))) rfl
theorem fz_X8_143 : Cond.fieldLink RX8 143 (TX8 44).1 (TX8 44).2.1 (TX8 44).2.2.1 ∈ wT := wu (wtab_5 (List.mem_of_getElem? (i := 83) (by decide +kernel))) rfl
theorem fz_X8_146 : Cond.fieldLink RX8 146 (TX8 45).1 (TX8 45).2.1 (TX8 45).2.2.1 ∈ wT := wu (wtab_5 (List.mem_of_getElem? (i := 84) (by decide +kernel))) rfl
theorem fz_X8_149 : Cond.fieldLink RX8 149 (TX8 49).1 (TX8 49).2.1 (TX8 49).2.2.1 ∈ wT := wu (wtab_5 (List.mem_of_getElem? (i := 88) (by decide +kernel))) rfl
theorem fz_X8_152 : Cond.fieldLink RX8 152 (TX8 51).1 (TX8 51).2.1 (TX8 51).2.2.1 ∈ wT := wu (wtab_5 (List.mem_of_getElem? (i := 90) (by decide +kernel))) rfl
theorem fz_X8_155 : Cond.fieldLink RX8 155 (TX8 55).1 (TX8 55).2.1 (TX8 55).2.2.1 ∈ wT := wu (wtab_5 (List.mem_of_getElem? (i := 94) (by decide +kernel))) rfl
theorem fz_X8_158 : Cond.fieldLink RX8 158 (TX8 57).1 (TX8 57).2.1 (TX8 57).2.2.1 ∈ wT := wu (wtab_5 (List.mem_of_getElem? (i := 96) (by decide +kernel))) rfl
def vX8 (G : GG) (h0 : Nat) (ad : Nat → Nat) : va_W := (h0, .inr (8, ((((((((((((((((((((((((((((((((((((((((dX8.set 0 (.ref (ad 1))).set 3 (.ref (ad 2))).set 12 (.ref (ad 3))).set 13 (.ref (ad 4))).set 14 (.ref (ad 5))).set 15 (.ref (ad 6))).set 16 (.ref (ad 7))).set 17 (.ref (ad 8))).set 18 (.ref (ad 9))).set 19 (.ref (ad 10))).set 20 (.ref (ad 11))).set 21 (.ref (ad 12))).set 22 (.ref (ad 13))).set 23 (.ref (ad 14))).set 24 (.ref (ad 15))).set 25 (.ref (ad 16))).set 26 (.ref (ad 17))).set 27 (.ref (ad 18))).set 28 (.ref (ad 19))).set 29 (.ref (ad 20))).set 30 (.ref (ad 21))).set 31 (.ref (ad 22))).set 32 (.ref (ad 23))).set 33 (.ref (ad 24))).set 34 (.ref (ad 25))).set 35 (.ref (ad 26))).set 36 (.ref (ad 27))).set 37 (.ref (ad 28))).set 38 (.ref (ad 29))).set 39 (.ref (ad 30))).set 40 (.ref (ad 31))).set 41 (.ref (ad 32))).set 42 (.ref (ad 33))).set 43 (.ref (ad 34))).set 44 (.ref (ad 35))).set 45 (.ref (ad 36))).set 49 (.ref (ad 37))).set 51 (.ref (ad 38))).set 55 (.ref (ad 39))).set 57 (.ref (ad 40))))) :: (((((((((((((((((((((((((((((((((((((([(ad 1, .inl (G.2.1 0, 4000, .inl (fun _ => 0))), (ad 2, .inl (G.2.1 2, 14, .inr (.inl (vp_updL (vp_updL (vp_updL (vp_updL (vp_updL (vp_updL (vp_updL (vp_updL (vp_updL (vp_updL (vp_updL (vp_updL (vp_updL (vp_updL (fun _ => 0) 0 1885430635) 1 119225631139186) 2 427020088179) 3 1717658469) 4 28518) 5 504363246962) 6 1869636974) 7 1852137842) 8 7305070) 9 126943688419683) 10 7017298113369039732) 11 1818586740) 12 6909556) 13 1852796517))))] ++ [(ad 3, .inl (G.2.1 1, 2, .inl (fun _ => 0)))]) ++ [(ad 4, .inl (G.2.1 1, 2, .inl (fun _ => 0)))]) ++ [(ad 5, .inl (G.2.1 1, 2, .inl (fun _ => 0)))]) ++ [(ad 6, .inl (G.2.1 1, 2, .inl (fun _ => 0)))]) ++ [(ad 7, .inl (G.2.1 2, 1402, .inr (.inl (fun _ => 0))))]) ++ [(ad 8, .inl (G.2.1 2, 48, .inr (.inl (fun _ => 0))))]) ++ [(ad 9, .inl (G.2.1 1, 48, .inl (fun _ => 0)))]) ++ [(ad 10, .inl (G.2.1 1, 48, .inl (fun _ => 0)))]) ++ [(ad 11, .inl (G.2.1 1, 48, .inl (fun _ => 0)))]) ++ [(ad 12, .inl (G.2.1 1, 48, .inl (fun _ => 0)))]) ++ [(ad 13, .inl (G.2.1 1, 48, .inl (fun _ => 0)))]) ++ [(ad 14, .inl (G.2.1 2, 96, .inr (.inl (fun _ => 0))))]) ++ [(ad 15, .inl (G.2.1 1, 96, .inl (fun _ => 0)))]) ++ [(ad 16, .inl (G.2.1 1, 48, .inl (fun _ => 0)))]) ++ [(ad 17, .inl (G.2.1 1, 240, .inl (fun _ => 0)))]) ++ [(ad 18, .inl (G.2.1 1, 480, .inl (fun _ => 0)))]) ++ [(ad 19, .inl (G.2.1 1, 48, .inl (fun _ => 0)))]) ++ [(ad 20, .inl (G.2.1 1, 48, .inl (fun _ => 0)))]) ++ [(ad 21, .inl (G.2.1 1, 1152, .inl (fun _ => 0)))]) ++ [(ad 22, .inl (G.2.1 3, 1152, .inl (fun _ => 0)))]) ++ [(ad 23, .inl (G.2.1 1, 2304, .inl (fun _ => 0)))]) ++ [(ad 24, .inl (G.2.1 1, 48, .inl (fun _ => 0)))]) ++ [(ad 25, .inl (G.2.1 1, 48, .inl (fun _ => 0)))]) ++ [(ad 26, .inl (G.2.1 1, 48, .inl (fun _ => 0)))]) ++ [(ad 27, .inl (G.2.1 1, 48, .inl (fun _ => 0)))]) ++ [(ad 28, .inl (G.2.1 1, 240, .inl (fun _ => 0)))]) ++ [(ad 29, .inl (G.2.1 2, 240, .inr (.inl (fun _ => 0))))]) ++ [(ad 30, .inl (G.2.1 1, 240, .inl (fun _ => 0)))]) ++ [(ad 31, .inl (G.2.1 1, 240, .inl (fun _ => 0)))]) ++ [(ad 32, .inl (G.2.1 1, 240, .inl (fun _ => 0)))]) ++ [(ad 33, .inl (G.2.1 1, 720, .inl (fun _ => 0)))]) ++ [(ad 34, .inl (G.2.1 3, 28800, .inl (fun _ => 0)))]) ++ [(ad 35, .inl (G.2.1 1, 14400, .inl (fun _ => 0)))]) ++ [(ad 36, .inl (G.2.1 1, 14400, .inl (fun _ => 0)))]) ++ [(ad 37, .inl (G.2.1 1, 24, .inl (fun _ => 0)))]) ++ [(ad 38, .inl (G.2.1 1, 24, .inl (fun _ => 0)))]) ++ [(ad 39, .inl (G.2.1 1, 24, .inl (fun _ => 0)))]) ++ [(ad 40, .inl (G.2.1 3, 576, .inl (fun _ => 0)))])
set_option maxHeartbeats 8000000 in
set_option maxRecDepth 100000 in
theorem z_X8 (l : Launch) (G : GG) (h0 sz : Nat) : CnZ l yX8_init cX8_init 1 1 20 40 71736 G [.ref h0] sz [(h0, .inr (8, dX8))] [] (vX8 G h0) := by
  refine cz_body (by decide) rfl (Nat.le_of_ble_eq_true rfl) ?_
  intro p e s m args below meth c ls C hsz hP hD0 hl
  subst hsz
  have hD := (vD_left hD0).self (sz := s.heap.size)
  have hA : ∀ q : Nat, s.heap.size ≤ q → va_A [(h0, .inr (8, dX8))] s.heap.size q := fun q h => Or.inr h
  have hS : va_S (va_A [(h0, .inr (8, dX8))] s.heap.size) s.heap s.heap [] := va_S.rf
  generalize hAe : va_A [(h0, .inr (8, dX8))] s.heap.size = A at hD hA hS
  have hP : va_P G.1 vwCl [(h0, .inr (8, dX8))] s.heap := hP
  have hfl : dX8.length = 60 := rfl
  refine lv_aload_n C.1.1 C.1.2.1 dX8_init_0 rfl (lv_at hl 0 rfl) ?_
  refine W.objInit C.1.1 C.1.2.1 C.1.2.2.2.1 (C.1.2.2.2.2 _ wz_oi8) (C.1.2.2.2.2 _ wz_ob1) (C.1.2.2.2.2 _ wz_ob2) rfl (hl.1.trans C.1.2.2.1.symm) rfl dX8_init_1 (Nat.le_of_ble_eq_true rfl) (Nat.le_of_ble_eq_true rfl) ?_
  refine lv_aload_n C.1.1 C.1.2.1 dX8_init_4 rfl (lv_at hl 0 rfl) ?_
  refine lv_sipush (v := 4000) C.1.1 C.1.2.1 dX8_init_5 (by decide) ?_
  refine z_grp (j := 0) (cG := G.2.1 0) (N' := 4000) (a0 := (4000, .inl (fun _ => 0))) (k := 0) C wz_ar0 rfl rfl (fun _ h => h) (fun _ => rfl) (by decide) rfl (by decide) (Nat.le_of_ble_eq_true rfl) (Nat.le_of_ble_eq_true rfl) dX8_init_8 rfl inX8 tyX8_ok nmX8 (by decide) fz_X8_7 rfl rfl (fun _ => rfl) (fun _ => rfl) hfl dX8_init_10 hP hD hS hA (fun q1 H locs hfl hP hD hS => ?_)
  refine lv_aload_n C.1.1 C.1.2.1 dX8_init_13 rfl (lv_at hl 0 rfl) ?_
  refine lv_bipush (v := 14) C.1.1 C.1.2.1 dX8_init_14 (by decide) ?_
  refine z_newa (j := 2) (cG := G.2.1 2) (N' := 14) (a0 := (14, .inr (.inl (fun _ => 0)))) C wz_ar2 rfl rfl (fun _ h => h) hP hD hS hA (fun _ => rfl) (by decide) rfl (by decide) (Nat.le_of_ble_eq_true rfl) (Nat.le_of_ble_eq_true rfl) dX8_init_16 (fun q2 H hP hD hS => ?_)
  have hP : va_P G.1 vwCl [(h0, .inr (8, dX8.set 0 (.ref q1))), (q1, .inl (G.2.1 0, 4000, .inl (fun _ => 0))), (q2, .inl (G.2.1 2, 14, .inr (.inl (fun _ => 0))))] H := hP
  have hD : va_D A [(h0, .inr (8, dX8.set 0 (.ref q1))), (q1, .inl (G.2.1 0, 4000, .inl (fun _ => 0))), (q2, .inl (G.2.1 2, 14, .inr (.inl (fun _ => 0))))] := hD
  refine lv_dup C.1.1 C.1.2.1 dX8_init_18 rfl ?_
  refine lv_iconst (v := 0) C.1.1 C.1.2.1 dX8_init_19 (by decide) ?_
  refine lv_ldc2 C.1.1 C.1.2.1 C.1.2.2.2.1 (C.1.2.2.2.2 _ cl_X8_13) dX8_init_20 ?_
  refine va_last C.1.1 C.1.2.1 C.2.2.2.2.1 hP hD hS 2 2 rfl rfl (i := 0) (by unfold vp_in; decide) dX8_init_23 (fun H locs hP hD hS => ?_)
  have hP : va_P G.1 vwCl [(h0, .inr (8, dX8.set 0 (.ref q1))), (q1, .inl (G.2.1 0, 4000, .inl (fun _ => 0))), (q2, .inl (G.2.1 2, 14, .inr (.inl (vp_updL (fun _ => 0) 0 1885430635))))] H := hP
  have hD : va_D A [(h0, .inr (8, dX8.set 0 (.ref q1))), (q1, .inl (G.2.1 0, 4000, .inl (fun _ => 0))), (q2, .inl (G.2.1 2, 14, .inr (.inl (vp_updL (fun _ => 0) 0 1885430635))))] := hD
  refine lv_dup C.1.1 C.1.2.1 dX8_init_24 rfl ?_
  refine lv_iconst (v := 1) C.1.1 C.1.2.1 dX8_init_25 (by decide) ?_
  refine lv_ldc2 C.1.1 C.1.2.1 C.1.2.2.2.1 (C.1.2.2.2.2 _ cl_X8_15) dX8_init_26 ?_
  refine va_last C.1.1 C.1.2.1 C.2.2.2.2.1 hP hD hS 2 2 rfl rfl (i := 1) (by unfold vp_in; decide) dX8_init_29 (fun H locs hP hD hS => ?_)
  have hP : va_P G.1 vwCl [(h0, .inr (8, dX8.set 0 (.ref q1))), (q1, .inl (G.2.1 0, 4000, .inl (fun _ => 0))), (q2, .inl (G.2.1 2, 14, .inr (.inl (vp_updL (vp_updL (fun _ => 0) 0 1885430635) 1 119225631139186))))] H := hP
  have hD : va_D A [(h0, .inr (8, dX8.set 0 (.ref q1))), (q1, .inl (G.2.1 0, 4000, .inl (fun _ => 0))), (q2, .inl (G.2.1 2, 14, .inr (.inl (vp_updL (vp_updL (fun _ => 0) 0 1885430635) 1 119225631139186))))] := hD
  refine lv_dup C.1.1 C.1.2.1 dX8_init_30 rfl ?_
  refine lv_iconst (v := 2) C.1.1 C.1.2.1 dX8_init_31 (by decide) ?_
  refine lv_ldc2 C.1.1 C.1.2.1 C.1.2.2.2.1 (C.1.2.2.2.2 _ cl_X8_17) dX8_init_32 ?_
  refine va_last C.1.1 C.1.2.1 C.2.2.2.2.1 hP hD hS 2 2 rfl rfl (i := 2) (by unfold vp_in; decide) dX8_init_35 (fun H locs hP hD hS => ?_)
  have hP : va_P G.1 vwCl [(h0, .inr (8, dX8.set 0 (.ref q1))), (q1, .inl (G.2.1 0, 4000, .inl (fun _ => 0))), (q2, .inl (G.2.1 2, 14, .inr (.inl (vp_updL (vp_updL (vp_updL (fun _ => 0) 0 1885430635) 1 119225631139186) 2 427020088179))))] H := hP
  have hD : va_D A [(h0, .inr (8, dX8.set 0 (.ref q1))), (q1, .inl (G.2.1 0, 4000, .inl (fun _ => 0))), (q2, .inl (G.2.1 2, 14, .inr (.inl (vp_updL (vp_updL (vp_updL (fun _ => 0) 0 1885430635) 1 119225631139186) 2 427020088179))))] := hD
  refine lv_dup C.1.1 C.1.2.1 dX8_init_36 rfl ?_
  refine lv_iconst (v := 3) C.1.1 C.1.2.1 dX8_init_37 (by decide) ?_
  refine lv_ldc2 C.1.1 C.1.2.1 C.1.2.2.2.1 (C.1.2.2.2.2 _ cl_X8_19) dX8_init_38 ?_
  refine va_last C.1.1 C.1.2.1 C.2.2.2.2.1 hP hD hS 2 2 rfl rfl (i := 3) (by unfold vp_in; decide) dX8_init_41 (fun H locs hP hD hS => ?_)
  have hP : va_P G.1 vwCl [(h0, .inr (8, dX8.set 0 (.ref q1))), (q1, .inl (G.2.1 0, 4000, .inl (fun _ => 0))), (q2, .inl (G.2.1 2, 14, .inr (.inl (vp_updL (vp_updL (vp_updL (vp_updL (fun _ => 0) 0 1885430635) 1 119225631139186) 2 427020088179) 3 1717658469))))] H := hP
  have hD : va_D A [(h0, .inr (8, dX8.set 0 (.ref q1))), (q1, .inl (G.2.1 0, 4000, .inl (fun _ => 0))), (q2, .inl (G.2.1 2, 14, .inr (.inl (vp_updL (vp_updL (vp_updL (vp_updL (fun _ => 0) 0 1885430635) 1 119225631139186) 2 427020088179) 3 1717658469))))] := hD
  refine lv_dup C.1.1 C.1.2.1 dX8_init_42 rfl ?_
  refine lv_iconst (v := 4) C.1.1 C.1.2.1 dX8_init_43 (by decide) ?_
  refine lv_ldc2 C.1.1 C.1.2.1 C.1.2.2.2.1 (C.1.2.2.2.2 _ cl_X8_21) dX8_init_44 ?_
  refine va_last C.1.1 C.1.2.1 C.2.2.2.2.1 hP hD hS 2 2 rfl rfl (i := 4) (by unfold vp_in; decide) dX8_init_47 (fun H locs hP hD hS => ?_)
  have hP : va_P G.1 vwCl [(h0, .inr (8, dX8.set 0 (.ref q1))), (q1, .inl (G.2.1 0, 4000, .inl (fun _ => 0))), (q2, .inl (G.2.1 2, 14, .inr (.inl (vp_updL (vp_updL (vp_updL (vp_updL (vp_updL (fun _ => 0) 0 1885430635) 1 119225631139186) 2 427020088179) 3 1717658469) 4 28518))))] H := hP
  have hD : va_D A [(h0, .inr (8, dX8.set 0 (.ref q1))), (q1, .inl (G.2.1 0, 4000, .inl (fun _ => 0))), (q2, .inl (G.2.1 2, 14, .inr (.inl (vp_updL (vp_updL (vp_updL (vp_updL (vp_updL (fun _ => 0) 0 1885430635) 1 119225631139186) 2 427020088179) 3 1717658469) 4 28518))))] := hD
  refine lv_dup C.1.1 C.1.2.1 dX8_init_48 rfl ?_
  refine lv_iconst (v := 5) C.1.1 C.1.2.1 dX8_init_49 (by decide) ?_
  refine lv_ldc2 C.1.1 C.1.2.1 C.1.2.2.2.1 (C.1.2.2.2.2 _ cl_X8_23) dX8_init_50 ?_
  refine va_last C.1.1 C.1.2.1 C.2.2.2.2.1 hP hD hS 2 2 rfl rfl (i := 5) (by unfold vp_in; decide) dX8_init_53 (fun H locs hP hD hS => ?_)
  have hP : va_P G.1 vwCl [(h0, .inr (8, dX8.set 0 (.ref q1))), (q1, .inl (G.2.1 0, 4000, .inl (fun _ => 0))), (q2, .inl (G.2.1 2, 14, .inr (.inl (vp_updL (vp_updL (vp_updL (vp_updL (vp_updL (vp_updL (fun _ => 0) 0 1885430635) 1 119225631139186) 2 427020088179) 3 1717658469) 4 28518) 5 504363246962))))] H := hP
  have hD : va_D A [(h0, .inr (8, dX8.set 0 (.ref q1))), (q1, .inl (G.2.1 0, 4000, .inl (fun _ => 0))), (q2, .inl (G.2.1 2, 14, .inr (.inl (vp_updL (vp_updL (vp_updL (vp_updL (vp_updL (vp_updL (fun _ => 0) 0 1885430635) 1 119225631139186) 2 427020088179) 3 1717658469) 4 28518) 5 504363246962))))] := hD
  refine lv_dup C.1.1 C.1.2.1 dX8_init_54 rfl ?_
  refine lv_bipush (v := 6) C.1.1 C.1.2.1 dX8_init_55 (by decide) ?_
  refine lv_ldc2 C.1.1 C.1.2.1 C.1.2.2.2.1 (C.1.2.2.2.2 _ cl_X8_25) dX8_init_57 ?_
  refine va_last C.1.1 C.1.2.1 C.2.2.2.2.1 hP hD hS 2 2 rfl rfl (i := 6) (by unfold vp_in; decide) dX8_init_60 (fun H locs hP hD hS => ?_)
  have hP : va_P G.1 vwCl [(h0, .inr (8, dX8.set 0 (.ref q1))), (q1, .inl (G.2.1 0, 4000, .inl (fun _ => 0))), (q2, .inl (G.2.1 2, 14, .inr (.inl (vp_updL (vp_updL (vp_updL (vp_updL (vp_updL (vp_updL (vp_updL (fun _ => 0) 0 1885430635) 1 119225631139186) 2 427020088179) 3 1717658469) 4 28518) 5 504363246962) 6 1869636974))))] H := hP
  have hD : va_D A [(h0, .inr (8, dX8.set 0 (.ref q1))), (q1, .inl (G.2.1 0, 4000, .inl (fun _ => 0))), (q2, .inl (G.2.1 2, 14, .inr (.inl (vp_updL (vp_updL (vp_updL (vp_updL (vp_updL (vp_updL (vp_updL (fun _ => 0) 0 1885430635) 1 119225631139186) 2 427020088179) 3 1717658469) 4 28518) 5 504363246962) 6 1869636974))))] := hD
  refine lv_dup C.1.1 C.1.2.1 dX8_init_61 rfl ?_
  refine lv_bipush (v := 7) C.1.1 C.1.2.1 dX8_init_62 (by decide) ?_
  refine lv_ldc2 C.1.1 C.1.2.1 C.1.2.2.2.1 (C.1.2.2.2.2 _ cl_X8_27) dX8_init_64 ?_
  refine va_last C.1.1 C.1.2.1 C.2.2.2.2.1 hP hD hS 2 2 rfl rfl (i := 7) (by unfold vp_in; decide) dX8_init_67 (fun H locs hP hD hS => ?_)
  have hP : va_P G.1 vwCl [(h0, .inr (8, dX8.set 0 (.ref q1))), (q1, .inl (G.2.1 0, 4000, .inl (fun _ => 0))), (q2, .inl (G.2.1 2, 14, .inr (.inl (vp_updL (vp_updL (vp_updL (vp_updL (vp_updL (vp_updL (vp_updL (vp_updL (fun _ => 0) 0 1885430635) 1 119225631139186) 2 427020088179) 3 1717658469) 4 28518) 5 504363246962) 6 1869636974) 7 1852137842))))] H := hP
  have hD : va_D A [(h0, .inr (8, dX8.set 0 (.ref q1))), (q1, .inl (G.2.1 0, 4000, .inl (fun _ => 0))), (q2, .inl (G.2.1 2, 14, .inr (.inl (vp_updL (vp_updL (vp_updL (vp_updL (vp_updL (vp_updL (vp_updL (vp_updL (fun _ => 0) 0 1885430635) 1 119225631139186) 2 427020088179) 3 1717658469) 4 28518) 5 504363246962) 6 1869636974) 7 1852137842))))] := hD
  refine lv_dup C.1.1 C.1.2.1 dX8_init_68 rfl ?_
  refine lv_bipush (v := 8) C.1.1 C.1.2.1 dX8_init_69 (by decide) ?_
  refine lv_ldc2 C.1.1 C.1.2.1 C.1.2.2.2.1 (C.1.2.2.2.2 _ cl_X8_29) dX8_init_71 ?_
  refine va_last C.1.1 C.1.2.1 C.2.2.2.2.1 hP hD hS 2 2 rfl rfl (i := 8) (by unfold vp_in; decide) dX8_init_74 (fun H locs hP hD hS => ?_)
  have hP : va_P G.1 vwCl [(h0, .inr (8, dX8.set 0 (.ref q1))), (q1, .inl (G.2.1 0, 4000, .inl (fun _ => 0))), (q2, .inl (G.2.1 2, 14, .inr (.inl (vp_updL (vp_updL (vp_updL (vp_updL (vp_updL (vp_updL (vp_updL (vp_updL (vp_updL (fun _ => 0) 0 1885430635) 1 119225631139186) 2 427020088179) 3 1717658469) 4 28518) 5 504363246962) 6 1869636974) 7 1852137842) 8 7305070))))] H := hP
  have hD : va_D A [(h0, .inr (8, dX8.set 0 (.ref q1))), (q1, .inl (G.2.1 0, 4000, .inl (fun _ => 0))), (q2, .inl (G.2.1 2, 14, .inr (.inl (vp_updL (vp_updL (vp_updL (vp_updL (vp_updL (vp_updL (vp_updL (vp_updL (vp_updL (fun _ => 0) 0 1885430635) 1 119225631139186) 2 427020088179) 3 1717658469) 4 28518) 5 504363246962) 6 1869636974) 7 1852137842) 8 7305070))))] := hD
  refine lv_dup C.1.1 C.1.2.1 dX8_init_75 rfl ?_
  refine lv_bipush (v := 9) C.1.1 C.1.2.1 dX8_init_76 (by decide) ?_
  refine lv_ldc2 C.1.1 C.1.2.1 C.1.2.2.2.1 (C.1.2.2.2.2 _ cl_X8_31) dX8_init_78 ?_
  refine va_last C.1.1 C.1.2.1 C.2.2.2.2.1 hP hD hS 2 2 rfl rfl (i := 9) (by unfold vp_in; decide) dX8_init_81 (fun H locs hP hD hS => ?_)
  have hP : va_P G.1 vwCl [(h0, .inr (8, dX8.set 0 (.ref q1))), (q1, .inl (G.2.1 0, 4000, .inl (fun _ => 0))), (q2, .inl (G.2.1 2, 14, .inr (.inl (vp_updL (vp_updL (vp_updL (vp_updL (vp_updL (vp_updL (vp_updL (vp_updL (vp_updL (vp_updL (fun _ => 0) 0 1885430635) 1 119225631139186) 2 427020088179) 3 1717658469) 4 28518) 5 504363246962) 6 1869636974) 7 1852137842) 8 7305070) 9 126943688419683))))] H := hP
  have hD : va_D A [(h0, .inr (8, dX8.set 0 (.ref q1))), (q1, .inl (G.2.1 0, 4000, .inl (fun _ => 0))), (q2, .inl (G.2.1 2, 14, .inr (.inl (vp_updL (vp_updL (vp_updL (vp_updL (vp_updL (vp_updL (vp_updL (vp_updL (vp_updL (vp_updL (fun _ => 0) 0 1885430635) 1 119225631139186) 2 427020088179) 3 1717658469) 4 28518) 5 504363246962) 6 1869636974) 7 1852137842) 8 7305070) 9 126943688419683))))] := hD
  refine lv_dup C.1.1 C.1.2.1 dX8_init_82 rfl ?_
  refine lv_bipush (v := 10) C.1.1 C.1.2.1 dX8_init_83 (by decide) ?_
  refine lv_ldc2 C.1.1 C.1.2.1 C.1.2.2.2.1 (C.1.2.2.2.2 _ cl_X8_33) dX8_init_85 ?_
  refine va_last C.1.1 C.1.2.1 C.2.2.2.2.1 hP hD hS 2 2 rfl rfl (i := 10) (by unfold vp_in; decide) dX8_init_88 (fun H locs hP hD hS => ?_)
  have hP : va_P G.1 vwCl [(h0, .inr (8, dX8.set 0 (.ref q1))), (q1, .inl (G.2.1 0, 4000, .inl (fun _ => 0))), (q2, .inl (G.2.1 2, 14, .inr (.inl (vp_updL (vp_updL (vp_updL (vp_updL (vp_updL (vp_updL (vp_updL (vp_updL (vp_updL (vp_updL (vp_updL (fun _ => 0) 0 1885430635) 1 119225631139186) 2 427020088179) 3 1717658469) 4 28518) 5 504363246962) 6 1869636974) 7 1852137842) 8 7305070) 9 126943688419683) 10 7017298113369039732))))] H := hP
  have hD : va_D A [(h0, .inr (8, dX8.set 0 (.ref q1))), (q1, .inl (G.2.1 0, 4000, .inl (fun _ => 0))), (q2, .inl (G.2.1 2, 14, .inr (.inl (vp_updL (vp_updL (vp_updL (vp_updL (vp_updL (vp_updL (vp_updL (vp_updL (vp_updL (vp_updL (vp_updL (fun _ => 0) 0 1885430635) 1 119225631139186) 2 427020088179) 3 1717658469) 4 28518) 5 504363246962) 6 1869636974) 7 1852137842) 8 7305070) 9 126943688419683) 10 7017298113369039732))))] := hD
  refine lv_dup C.1.1 C.1.2.1 dX8_init_89 rfl ?_
  refine lv_bipush (v := 11) C.1.1 C.1.2.1 dX8_init_90 (by decide) ?_
  refine lv_ldc2 C.1.1 C.1.2.1 C.1.2.2.2.1 (C.1.2.2.2.2 _ cl_X8_35) dX8_init_92 ?_
  refine va_last C.1.1 C.1.2.1 C.2.2.2.2.1 hP hD hS 2 2 rfl rfl (i := 11) (by unfold vp_in; decide) dX8_init_95 (fun H locs hP hD hS => ?_)
  have hP : va_P G.1 vwCl [(h0, .inr (8, dX8.set 0 (.ref q1))), (q1, .inl (G.2.1 0, 4000, .inl (fun _ => 0))), (q2, .inl (G.2.1 2, 14, .inr (.inl (vp_updL (vp_updL (vp_updL (vp_updL (vp_updL (vp_updL (vp_updL (vp_updL (vp_updL (vp_updL (vp_updL (vp_updL (fun _ => 0) 0 1885430635) 1 119225631139186) 2 427020088179) 3 1717658469) 4 28518) 5 504363246962) 6 1869636974) 7 1852137842) 8 7305070) 9 126943688419683) 10 7017298113369039732) 11 1818586740))))] H := hP
  have hD : va_D A [(h0, .inr (8, dX8.set 0 (.ref q1))), (q1, .inl (G.2.1 0, 4000, .inl (fun _ => 0))), (q2, .inl (G.2.1 2, 14, .inr (.inl (vp_updL (vp_updL (vp_updL (vp_updL (vp_updL (vp_updL (vp_updL (vp_updL (vp_updL (vp_updL (vp_updL (vp_updL (fun _ => 0) 0 1885430635) 1 119225631139186) 2 427020088179) 3 1717658469) 4 28518) 5 504363246962) 6 1869636974) 7 1852137842) 8 7305070) 9 126943688419683) 10 7017298113369039732) 11 1818586740))))] := hD
  refine lv_dup C.1.1 C.1.2.1 dX8_init_96 rfl ?_
  refine lv_bipush (v := 12) C.1.1 C.1.2.1 dX8_init_97 (by decide) ?_
  refine lv_ldc2 C.1.1 C.1.2.1 C.1.2.2.2.1 (C.1.2.2.2.2 _ cl_X8_37) dX8_init_99 ?_
  refine va_last C.1.1 C.1.2.1 C.2.2.2.2.1 hP hD hS 2 2 rfl rfl (i := 12) (by unfold vp_in; decide) dX8_init_102 (fun H locs hP hD hS => ?_)
  have hP : va_P G.1 vwCl [(h0, .inr (8, dX8.set 0 (.ref q1))), (q1, .inl (G.2.1 0, 4000, .inl (fun _ => 0))), (q2, .inl (G.2.1 2, 14, .inr (.inl (vp_updL (vp_updL (vp_updL (vp_updL (vp_updL (vp_updL (vp_updL (vp_updL (vp_updL (vp_updL (vp_updL (vp_updL (vp_updL (fun _ => 0) 0 1885430635) 1 119225631139186) 2 427020088179) 3 1717658469) 4 28518) 5 504363246962) 6 1869636974) 7 1852137842) 8 7305070) 9 126943688419683) 10 7017298113369039732) 11 1818586740) 12 6909556))))] H := hP
  have hD : va_D A [(h0, .inr (8, dX8.set 0 (.ref q1))), (q1, .inl (G.2.1 0, 4000, .inl (fun _ => 0))), (q2, .inl (G.2.1 2, 14, .inr (.inl (vp_updL (vp_updL (vp_updL (vp_updL (vp_updL (vp_updL (vp_updL (vp_updL (vp_updL (vp_updL (vp_updL (vp_updL (vp_updL (fun _ => 0) 0 1885430635) 1 119225631139186) 2 427020088179) 3 1717658469) 4 28518) 5 504363246962) 6 1869636974) 7 1852137842) 8 7305070) 9 126943688419683) 10 7017298113369039732) 11 1818586740) 12 6909556))))] := hD
  refine lv_dup C.1.1 C.1.2.1 dX8_init_103 rfl ?_
  refine lv_bipush (v := 13) C.1.1 C.1.2.1 dX8_init_104 (by decide) ?_
  refine lv_ldc2 C.1.1 C.1.2.1 C.1.2.2.2.1 (C.1.2.2.2.2 _ cl_X8_39) dX8_init_106 ?_
  refine va_last C.1.1 C.1.2.1 C.2.2.2.2.1 hP hD hS 2 2 rfl rfl (i := 13) (by unfold vp_in; decide) dX8_init_109 (fun H locs hP hD hS => ?_)
  have hP : va_P G.1 vwCl [(h0, .inr (8, dX8.set 0 (.ref q1))), (q1, .inl (G.2.1 0, 4000, .inl (fun _ => 0))), (q2, .inl (G.2.1 2, 14, .inr (.inl (vp_updL (vp_updL (vp_updL (vp_updL (vp_updL (vp_updL (vp_updL (vp_updL (vp_updL (vp_updL (vp_updL (vp_updL (vp_updL (vp_updL (fun _ => 0) 0 1885430635) 1 119225631139186) 2 427020088179) 3 1717658469) 4 28518) 5 504363246962) 6 1869636974) 7 1852137842) 8 7305070) 9 126943688419683) 10 7017298113369039732) 11 1818586740) 12 6909556) 13 1852796517))))] H := hP
  have hD : va_D A [(h0, .inr (8, dX8.set 0 (.ref q1))), (q1, .inl (G.2.1 0, 4000, .inl (fun _ => 0))), (q2, .inl (G.2.1 2, 14, .inr (.inl (vp_updL (vp_updL (vp_updL (vp_updL (vp_updL (vp_updL (vp_updL (vp_updL (vp_updL (vp_updL (vp_updL (vp_updL (vp_updL (vp_updL (fun _ => 0) 0 1885430635) 1 119225631139186) 2 427020088179) 3 1717658469) 4 28518) 5 504363246962) 6 1869636974) 7 1852137842) 8 7305070) 9 126943688419683) 10 7017298113369039732) 11 1818586740) 12 6909556) 13 1852796517))))] := hD
  refine z_putF (k := 3) (fs := dX8.set 0 (.ref q1)) C rfl inX8 tyX8_ok nmX8 (by decide) fz_X8_41 rfl rfl rfl rfl (Nat.le_of_ble_eq_true rfl) hP hD hS dX8_init_110 (fun H locs hP hD hS => ?_)
  have hfl : ((dX8.set 0 (.ref q1)).set 3 (.ref q2)).length = 60 := rfl
  refine lv_aload_n C.1.1 C.1.2.1 dX8_init_113 rfl (lv_at hl 0 rfl) ?_
  refine lv_iconst (v := 2) C.1.1 C.1.2.1 dX8_init_114 (by decide) ?_
  refine z_grp (j := 1) (cG := G.2.1 1) (N' := 2) (a0 := (2, .inl (fun _ => 0))) (k := 12) C wz_ar1 rfl rfl (fun _ h => h) (fun _ => rfl) (by decide) rfl (by decide) (Nat.le_of_ble_eq_true rfl) (Nat.le_of_ble_eq_true rfl) dX8_init_115 rfl inX8 tyX8_ok nmX8 (by decide) fz_X8_45 rfl rfl (fun _ => rfl) (fun _ => rfl) hfl dX8_init_117 hP hD hS hA (fun q3 H locs hfl hP hD hS => ?_)
  refine lv_aload_n C.1.1 C.1.2.1 dX8_init_120 rfl (lv_at hl 0 rfl) ?_
  refine lv_iconst (v := 2) C.1.1 C.1.2.1 dX8_init_121 (by decide) ?_
  refine z_grp (j := 1) (cG := G.2.1 1) (N' := 2) (a0 := (2, .inl (fun _ => 0))) (k := 13) C wz_ar1 rfl rfl (fun _ h => h) (fun _ => rfl) (by decide) rfl (by decide) (Nat.le_of_ble_eq_true rfl) (Nat.le_of_ble_eq_true rfl) dX8_init_122 rfl inX8 tyX8_ok nmX8 (by decide) fz_X8_49 rfl rfl (fun _ => rfl) (fun _ => rfl) hfl dX8_init_124 hP hD hS hA (fun q4 H locs hfl hP hD hS => ?_)
  refine lv_aload_n C.1.1 C.1.2.1 dX8_init_127 rfl (lv_at hl 0 rfl) ?_
  refine lv_iconst (v := 2) C.1.1 C.1.2.1 dX8_init_128 (by decide) ?_
  refine z_grp (j := 1) (cG := G.2.1 1) (N' := 2) (a0 := (2, .inl (fun _ => 0))) (k := 14) C wz_ar1 rfl rfl (fun _ h => h) (fun _ => rfl) (by decide) rfl (by decide) (Nat.le_of_ble_eq_true rfl) (Nat.le_of_ble_eq_true rfl) dX8_init_129 rfl inX8 tyX8_ok nmX8 (by decide) fz_X8_52 rfl rfl (fun _ => rfl) (fun _ => rfl) hfl dX8_init_131 hP hD hS hA (fun q5 H locs hfl hP hD hS => ?_)
  refine lv_aload_n C.1.1 C.1.2.1 dX8_init_134 rfl (lv_at hl 0 rfl) ?_
  refine lv_iconst (v := 2) C.1.1 C.1.2.1 dX8_init_135 (by decide) ?_
  refine z_grp (j := 1) (cG := G.2.1 1) (N' := 2) (a0 := (2, .inl (fun _ => 0))) (k := 15) C wz_ar1 rfl rfl (fun _ h => h) (fun _ => rfl) (by decide) rfl (by decide) (Nat.le_of_ble_eq_true rfl) (Nat.le_of_ble_eq_true rfl) dX8_init_136 rfl inX8 tyX8_ok nmX8 (by decide) fz_X8_55 rfl rfl (fun _ => rfl) (fun _ => rfl) hfl dX8_init_138 hP hD hS hA (fun q6 H locs hfl hP hD hS => ?_)
  refine lv_aload_n C.1.1 C.1.2.1 dX8_init_141 rfl (lv_at hl 0 rfl) ?_
  refine lv_sipush (v := 1402) C.1.1 C.1.2.1 dX8_init_142 (by decide) ?_
  refine z_grp (j := 2) (cG := G.2.1 2) (N' := 1402) (a0 := (1402, .inr (.inl (fun _ => 0)))) (k := 16) C wz_ar2 rfl rfl (fun _ h => h) (fun _ => rfl) (by decide) rfl (by decide) (Nat.le_of_ble_eq_true rfl) (Nat.le_of_ble_eq_true rfl) dX8_init_145 rfl inX8 tyX8_ok nmX8 (by decide) fz_X8_58 rfl rfl (fun _ => rfl) (fun _ => rfl) hfl dX8_init_147 hP hD hS hA (fun q7 H locs hfl hP hD hS => ?_)
  refine lv_aload_n C.1.1 C.1.2.1 dX8_init_150 rfl (lv_at hl 0 rfl) ?_
  refine lv_bipush (v := 48) C.1.1 C.1.2.1 dX8_init_151 (by decide) ?_
  refine z_grp (j := 2) (cG := G.2.1 2) (N' := 48) (a0 := (48, .inr (.inl (fun _ => 0)))) (k := 17) C wz_ar2 rfl rfl (fun _ h => h) (fun _ => rfl) (by decide) rfl (by decide) (Nat.le_of_ble_eq_true rfl) (Nat.le_of_ble_eq_true rfl) dX8_init_153 rfl inX8 tyX8_ok nmX8 (by decide) fz_X8_61 rfl rfl (fun _ => rfl) (fun _ => rfl) hfl dX8_init_155 hP hD hS hA (fun q8 H locs hfl hP hD hS => ?_)
  refine lv_aload_n C.1.1 C.1.2.1 dX8_init_158 rfl (lv_at hl 0 rfl) ?_
  refine lv_bipush (v := 48) C.1.1 C.1.2.1 dX8_init_159 (by decide) ?_
  refine z_grp (j := 1) (cG := G.2.1 1) (N' := 48) (a0 := (48, .inl (fun _ => 0))) (k := 18) C wz_ar1 rfl rfl (fun _ h => h) (fun _ => rfl) (by decide) rfl (by decide) (Nat.le_of_ble_eq_true rfl) (Nat.le_of_ble_eq_true rfl) dX8_init_161 rfl inX8 tyX8_ok nmX8 (by decide) fz_X8_64 rfl rfl (fun _ => rfl) (fun _ => rfl) hfl dX8_init_163 hP hD hS hA (fun q9 H locs hfl hP hD hS => ?_)
  refine lv_aload_n C.1.1 C.1.2.1 dX8_init_166 rfl (lv_at hl 0 rfl) ?_
  refine lv_bipush (v := 48) C.1.1 C.1.2.1 dX8_init_167 (by decide) ?_
  refine z_grp (j := 1) (cG := G.2.1 1) (N' := 48) (a0 := (48, .inl (fun _ => 0))) (k := 19) C wz_ar1 rfl rfl (fun _ h => h) (fun _ => rfl) (by decide) rfl (by decide) (Nat.le_of_ble_eq_true rfl) (Nat.le_of_ble_eq_true rfl) dX8_init_169 rfl inX8 tyX8_ok nmX8 (by decide) fz_X8_67 rfl rfl (fun _ => rfl) (fun _ => rfl) hfl dX8_init_171 hP hD hS hA (fun q10 H locs hfl hP hD hS => ?_)
  refine lv_aload_n C.1.1 C.1.2.1 dX8_init_174 rfl (lv_at hl 0 rfl) ?_
  refine lv_bipush (v := 48) C.1.1 C.1.2.1 dX8_init_175 (by decide) ?_
  refine z_grp (j := 1) (cG := G.2.1 1) (N' := 48) (a0 := (48, .inl (fun _ => 0))) (k := 20) C wz_ar1 rfl rfl (fun _ h => h) (fun _ => rfl) (by decide) rfl (by decide) (Nat.le_of_ble_eq_true rfl) (Nat.le_of_ble_eq_true rfl) dX8_init_177 rfl inX8 tyX8_ok nmX8 (by decide) fz_X8_70 rfl rfl (fun _ => rfl) (fun _ => rfl) hfl dX8_init_179 hP hD hS hA (fun q11 H locs hfl hP hD hS => ?_)
  refine lv_aload_n C.1.1 C.1.2.1 dX8_init_182 rfl (lv_at hl 0 rfl) ?_
  refine lv_bipush (v := 48) C.1.1 C.1.2.1 dX8_init_183 (by decide) ?_
  refine z_grp (j := 1) (cG := G.2.1 1) (N' := 48) (a0 := (48, .inl (fun _ => 0))) (k := 21) C wz_ar1 rfl rfl (fun _ h => h) (fun _ => rfl) (by decide) rfl (by decide) (Nat.le_of_ble_eq_true rfl) (Nat.le_of_ble_eq_true rfl) dX8_init_185 rfl inX8 tyX8_ok nmX8 (by decide) fz_X8_73 rfl rfl (fun _ => rfl) (fun _ => rfl) hfl dX8_init_187 hP hD hS hA (fun q12 H locs hfl hP hD hS => ?_)
  refine lv_aload_n C.1.1 C.1.2.1 dX8_init_190 rfl (lv_at hl 0 rfl) ?_
  refine lv_bipush (v := 48) C.1.1 C.1.2.1 dX8_init_191 (by decide) ?_
  refine z_grp (j := 1) (cG := G.2.1 1) (N' := 48) (a0 := (48, .inl (fun _ => 0))) (k := 22) C wz_ar1 rfl rfl (fun _ h => h) (fun _ => rfl) (by decide) rfl (by decide) (Nat.le_of_ble_eq_true rfl) (Nat.le_of_ble_eq_true rfl) dX8_init_193 rfl inX8 tyX8_ok nmX8 (by decide) fz_X8_76 rfl rfl (fun _ => rfl) (fun _ => rfl) hfl dX8_init_195 hP hD hS hA (fun q13 H locs hfl hP hD hS => ?_)
  refine lv_aload_n C.1.1 C.1.2.1 dX8_init_198 rfl (lv_at hl 0 rfl) ?_
  refine lv_bipush (v := 96) C.1.1 C.1.2.1 dX8_init_199 (by decide) ?_
  refine z_grp (j := 2) (cG := G.2.1 2) (N' := 96) (a0 := (96, .inr (.inl (fun _ => 0)))) (k := 23) C wz_ar2 rfl rfl (fun _ h => h) (fun _ => rfl) (by decide) rfl (by decide) (Nat.le_of_ble_eq_true rfl) (Nat.le_of_ble_eq_true rfl) dX8_init_201 rfl inX8 tyX8_ok nmX8 (by decide) fz_X8_79 rfl rfl (fun _ => rfl) (fun _ => rfl) hfl dX8_init_203 hP hD hS hA (fun q14 H locs hfl hP hD hS => ?_)
  refine lv_aload_n C.1.1 C.1.2.1 dX8_init_206 rfl (lv_at hl 0 rfl) ?_
  refine lv_bipush (v := 96) C.1.1 C.1.2.1 dX8_init_207 (by decide) ?_
  refine z_grp (j := 1) (cG := G.2.1 1) (N' := 96) (a0 := (96, .inl (fun _ => 0))) (k := 24) C wz_ar1 rfl rfl (fun _ h => h) (fun _ => rfl) (by decide) rfl (by decide) (Nat.le_of_ble_eq_true rfl) (Nat.le_of_ble_eq_true rfl) dX8_init_209 rfl inX8 tyX8_ok nmX8 (by decide) fz_X8_82 rfl rfl (fun _ => rfl) (fun _ => rfl) hfl dX8_init_211 hP hD hS hA (fun q15 H locs hfl hP hD hS => ?_)
  refine lv_aload_n C.1.1 C.1.2.1 dX8_init_214 rfl (lv_at hl 0 rfl) ?_
  refine lv_bipush (v := 48) C.1.1 C.1.2.1 dX8_init_215 (by decide) ?_
  refine z_grp (j := 1) (cG := G.2.1 1) (N' := 48) (a0 := (48, .inl (fun _ => 0))) (k := 25) C wz_ar1 rfl rfl (fun _ h => h) (fun _ => rfl) (by decide) rfl (by decide) (Nat.le_of_ble_eq_true rfl) (Nat.le_of_ble_eq_true rfl) dX8_init_217 rfl inX8 tyX8_ok nmX8 (by decide) fz_X8_85 rfl rfl (fun _ => rfl) (fun _ => rfl) hfl dX8_init_219 hP hD hS hA (fun q16 H locs hfl hP hD hS => ?_)
  refine lv_aload_n C.1.1 C.1.2.1 dX8_init_222 rfl (lv_at hl 0 rfl) ?_
  refine lv_sipush (v := 240) C.1.1 C.1.2.1 dX8_init_223 (by decide) ?_
  refine z_grp (j := 1) (cG := G.2.1 1) (N' := 240) (a0 := (240, .inl (fun _ => 0))) (k := 26) C wz_ar1 rfl rfl (fun _ h => h) (fun _ => rfl) (by decide) rfl (by decide) (Nat.le_of_ble_eq_true rfl) (Nat.le_of_ble_eq_true rfl) dX8_init_226 rfl inX8 tyX8_ok nmX8 (by decide) fz_X8_88 rfl rfl (fun _ => rfl) (fun _ => rfl) hfl dX8_init_228 hP hD hS hA (fun q17 H locs hfl hP hD hS => ?_)
  refine lv_aload_n C.1.1 C.1.2.1 dX8_init_231 rfl (lv_at hl 0 rfl) ?_
  refine lv_sipush (v := 480) C.1.1 C.1.2.1 dX8_init_232 (by decide) ?_
  refine z_grp (j := 1) (cG := G.2.1 1) (N' := 480) (a0 := (480, .inl (fun _ => 0))) (k := 27) C wz_ar1 rfl rfl (fun _ h => h) (fun _ => rfl) (by decide) rfl (by decide) (Nat.le_of_ble_eq_true rfl) (Nat.le_of_ble_eq_true rfl) dX8_init_235 rfl inX8 tyX8_ok nmX8 (by decide) fz_X8_91 rfl rfl (fun _ => rfl) (fun _ => rfl) hfl dX8_init_237 hP hD hS hA (fun q18 H locs hfl hP hD hS => ?_)
  refine lv_aload_n C.1.1 C.1.2.1 dX8_init_240 rfl (lv_at hl 0 rfl) ?_
  refine lv_bipush (v := 48) C.1.1 C.1.2.1 dX8_init_241 (by decide) ?_
  refine z_grp (j := 1) (cG := G.2.1 1) (N' := 48) (a0 := (48, .inl (fun _ => 0))) (k := 28) C wz_ar1 rfl rfl (fun _ h => h) (fun _ => rfl) (by decide) rfl (by decide) (Nat.le_of_ble_eq_true rfl) (Nat.le_of_ble_eq_true rfl) dX8_init_243 rfl inX8 tyX8_ok nmX8 (by decide) fz_X8_94 rfl rfl (fun _ => rfl) (fun _ => rfl) hfl dX8_init_245 hP hD hS hA (fun q19 H locs hfl hP hD hS => ?_)
  refine lv_aload_n C.1.1 C.1.2.1 dX8_init_248 rfl (lv_at hl 0 rfl) ?_
  refine lv_bipush (v := 48) C.1.1 C.1.2.1 dX8_init_249 (by decide) ?_
  refine z_grp (j := 1) (cG := G.2.1 1) (N' := 48) (a0 := (48, .inl (fun _ => 0))) (k := 29) C wz_ar1 rfl rfl (fun _ h => h) (fun _ => rfl) (by decide) rfl (by decide) (Nat.le_of_ble_eq_true rfl) (Nat.le_of_ble_eq_true rfl) dX8_init_251 rfl inX8 tyX8_ok nmX8 (by decide) fz_X8_97 rfl rfl (fun _ => rfl) (fun _ => rfl) hfl dX8_init_253 hP hD hS hA (fun q20 H locs hfl hP hD hS => ?_)
  refine lv_aload_n C.1.1 C.1.2.1 dX8_init_256 rfl (lv_at hl 0 rfl) ?_
  refine lv_sipush (v := 1152) C.1.1 C.1.2.1 dX8_init_257 (by decide) ?_
  refine z_grp (j := 1) (cG := G.2.1 1) (N' := 1152) (a0 := (1152, .inl (fun _ => 0))) (k := 30) C wz_ar1 rfl rfl (fun _ h => h) (fun _ => rfl) (by decide) rfl (by decide) (Nat.le_of_ble_eq_true rfl) (Nat.le_of_ble_eq_true rfl) dX8_init_260 rfl inX8 tyX8_ok nmX8 (by decide) fz_X8_100 rfl rfl (fun _ => rfl) (fun _ => rfl) hfl dX8_init_262 hP hD hS hA (fun q21 H locs hfl hP hD hS => ?_)
  refine lv_aload_n C.1.1 C.1.2.1 dX8_init_265 rfl (lv_at hl 0 rfl) ?_
  refine lv_sipush (v := 1152) C.1.1 C.1.2.1 dX8_init_266 (by decide) ?_
  refine z_grp (j := 3) (cG := G.2.1 3) (N' := 1152) (a0 := (1152, .inl (fun _ => 0))) (k := 31) C wz_ar3 rfl rfl (fun _ h => h) (fun _ => rfl) (by decide) rfl (by decide) (Nat.le_of_ble_eq_true rfl) (Nat.le_of_ble_eq_true rfl) dX8_init_269 rfl inX8 tyX8_ok nmX8 (by decide) fz_X8_103 rfl rfl (fun _ => rfl) (fun _ => rfl) hfl dX8_init_271 hP hD hS hA (fun q22 H locs hfl hP hD hS => ?_)
  refine lv_aload_n C.1.1 C.1.2.1 dX8_init_274 rfl (lv_at hl 0 rfl) ?_
  refine lv_sipush (v := 2304) C.1.1 C.1.2.1 dX8_init_275 (by decide) ?_
  refine z_grp (j := 1) (cG := G.2.1 1) (N' := 2304) (a0 := (2304, .inl (fun _ => 0))) (k := 32) C wz_ar1 rfl rfl (fun _ h => h) (fun _ => rfl) (by decide) rfl (by decide) (Nat.le_of_ble_eq_true rfl) (Nat.le_of_ble_eq_true rfl) dX8_init_278 rfl inX8 tyX8_ok nmX8 (by decide) fz_X8_107 rfl rfl (fun _ => rfl) (fun _ => rfl) hfl dX8_init_280 hP hD hS hA (fun q23 H locs hfl hP hD hS => ?_)
  refine lv_aload_n C.1.1 C.1.2.1 dX8_init_283 rfl (lv_at hl 0 rfl) ?_
  refine lv_bipush (v := 48) C.1.1 C.1.2.1 dX8_init_284 (by decide) ?_
  refine z_grp (j := 1) (cG := G.2.1 1) (N' := 48) (a0 := (48, .inl (fun _ => 0))) (k := 33) C wz_ar1 rfl rfl (fun _ h => h) (fun _ => rfl) (by decide) rfl (by decide) (Nat.le_of_ble_eq_true rfl) (Nat.le_of_ble_eq_true rfl) dX8_init_286 rfl inX8 tyX8_ok nmX8 (by decide) fz_X8_110 rfl rfl (fun _ => rfl) (fun _ => rfl) hfl dX8_init_288 hP hD hS hA (fun q24 H locs hfl hP hD hS => ?_)
  refine lv_aload_n C.1.1 C.1.2.1 dX8_init_291 rfl (lv_at hl 0 rfl) ?_
  refine lv_bipush (v := 48) C.1.1 C.1.2.1 dX8_init_292 (by decide) ?_
  refine z_grp (j := 1) (cG := G.2.1 1) (N' := 48) (a0 := (48, .inl (fun _ => 0))) (k := 34) C wz_ar1 rfl rfl (fun _ h => h) (fun _ => rfl) (by decide) rfl (by decide) (Nat.le_of_ble_eq_true rfl) (Nat.le_of_ble_eq_true rfl) dX8_init_294 rfl inX8 tyX8_ok nmX8 (by decide) fz_X8_113 rfl rfl (fun _ => rfl) (fun _ => rfl) hfl dX8_init_296 hP hD hS hA (fun q25 H locs hfl hP hD hS => ?_)
  refine lv_aload_n C.1.1 C.1.2.1 dX8_init_299 rfl (lv_at hl 0 rfl) ?_
  refine lv_bipush (v := 48) C.1.1 C.1.2.1 dX8_init_300 (by decide) ?_
  refine z_grp (j := 1) (cG := G.2.1 1) (N' := 48) (a0 := (48, .inl (fun _ => 0))) (k := 35) C wz_ar1 rfl rfl (fun _ h => h) (fun _ => rfl) (by decide) rfl (by decide) (Nat.le_of_ble_eq_true rfl) (Nat.le_of_ble_eq_true rfl) dX8_init_302 rfl inX8 tyX8_ok nmX8 (by decide) fz_X8_116 rfl rfl (fun _ => rfl) (fun _ => rfl) hfl dX8_init_304 hP hD hS hA (fun q26 H locs hfl hP hD hS => ?_)
  refine lv_aload_n C.1.1 C.1.2.1 dX8_init_307 rfl (lv_at hl 0 rfl) ?_
  refine lv_bipush (v := 48) C.1.1 C.1.2.1 dX8_init_308 (by decide) ?_
  refine z_grp (j := 1) (cG := G.2.1 1) (N' := 48) (a0 := (48, .inl (fun _ => 0))) (k := 36) C wz_ar1 rfl rfl (fun _ h => h) (fun _ => rfl) (by decide) rfl (by decide) (Nat.le_of_ble_eq_true rfl) (Nat.le_of_ble_eq_true rfl) dX8_init_310 rfl inX8 tyX8_ok nmX8 (by decide) fz_X8_119 rfl rfl (fun _ => rfl) (fun _ => rfl) hfl dX8_init_312 hP hD hS hA (fun q27 H locs hfl hP hD hS => ?_)
  refine lv_aload_n C.1.1 C.1.2.1 dX8_init_315 rfl (lv_at hl 0 rfl) ?_
  refine lv_sipush (v := 240) C.1.1 C.1.2.1 dX8_init_316 (by decide) ?_
  refine z_grp (j := 1) (cG := G.2.1 1) (N' := 240) (a0 := (240, .inl (fun _ => 0))) (k := 37) C wz_ar1 rfl rfl (fun _ h => h) (fun _ => rfl) (by decide) rfl (by decide) (Nat.le_of_ble_eq_true rfl) (Nat.le_of_ble_eq_true rfl) dX8_init_319 rfl inX8 tyX8_ok nmX8 (by decide) fz_X8_122 rfl rfl (fun _ => rfl) (fun _ => rfl) hfl dX8_init_321 hP hD hS hA (fun q28 H locs hfl hP hD hS => ?_)
  refine lv_aload_n C.1.1 C.1.2.1 dX8_init_324 rfl (lv_at hl 0 rfl) ?_
  refine lv_sipush (v := 240) C.1.1 C.1.2.1 dX8_init_325 (by decide) ?_
  refine z_grp (j := 2) (cG := G.2.1 2) (N' := 240) (a0 := (240, .inr (.inl (fun _ => 0)))) (k := 38) C wz_ar2 rfl rfl (fun _ h => h) (fun _ => rfl) (by decide) rfl (by decide) (Nat.le_of_ble_eq_true rfl) (Nat.le_of_ble_eq_true rfl) dX8_init_328 rfl inX8 tyX8_ok nmX8 (by decide) fz_X8_125 rfl rfl (fun _ => rfl) (fun _ => rfl) hfl dX8_init_330 hP hD hS hA (fun q29 H locs hfl hP hD hS => ?_)
  refine lv_aload_n C.1.1 C.1.2.1 dX8_init_333 rfl (lv_at hl 0 rfl) ?_
  refine lv_sipush (v := 240) C.1.1 C.1.2.1 dX8_init_334 (by decide) ?_
  refine z_grp (j := 1) (cG := G.2.1 1) (N' := 240) (a0 := (240, .inl (fun _ => 0))) (k := 39) C wz_ar1 rfl rfl (fun _ h => h) (fun _ => rfl) (by decide) rfl (by decide) (Nat.le_of_ble_eq_true rfl) (Nat.le_of_ble_eq_true rfl) dX8_init_337 rfl inX8 tyX8_ok nmX8 (by decide) fz_X8_128 rfl rfl (fun _ => rfl) (fun _ => rfl) hfl dX8_init_339 hP hD hS hA (fun q30 H locs hfl hP hD hS => ?_)
  refine lv_aload_n C.1.1 C.1.2.1 dX8_init_342 rfl (lv_at hl 0 rfl) ?_
  refine lv_sipush (v := 240) C.1.1 C.1.2.1 dX8_init_343 (by decide) ?_
  refine z_grp (j := 1) (cG := G.2.1 1) (N' := 240) (a0 := (240, .inl (fun _ => 0))) (k := 40) C wz_ar1 rfl rfl (fun _ h => h) (fun _ => rfl) (by decide) rfl (by decide) (Nat.le_of_ble_eq_true rfl) (Nat.le_of_ble_eq_true rfl) dX8_init_346 rfl inX8 tyX8_ok nmX8 (by decide) fz_X8_131 rfl rfl (fun _ => rfl) (fun _ => rfl) hfl dX8_init_348 hP hD hS hA (fun q31 H locs hfl hP hD hS => ?_)
  refine lv_aload_n C.1.1 C.1.2.1 dX8_init_351 rfl (lv_at hl 0 rfl) ?_
  refine lv_sipush (v := 240) C.1.1 C.1.2.1 dX8_init_352 (by decide) ?_
  refine z_grp (j := 1) (cG := G.2.1 1) (N' := 240) (a0 := (240, .inl (fun _ => 0))) (k := 41) C wz_ar1 rfl rfl (fun _ h => h) (fun _ => rfl) (by decide) rfl (by decide) (Nat.le_of_ble_eq_true rfl) (Nat.le_of_ble_eq_true rfl) dX8_init_355 rfl inX8 tyX8_ok nmX8 (by decide) fz_X8_134 rfl rfl (fun _ => rfl) (fun _ => rfl) hfl dX8_init_357 hP hD hS hA (fun q32 H locs hfl hP hD hS => ?_)
  refine lv_aload_n C.1.1 C.1.2.1 dX8_init_360 rfl (lv_at hl 0 rfl) ?_
  refine lv_sipush (v := 720) C.1.1 C.1.2.1 dX8_init_361 (by decide) ?_
  refine z_grp (j := 1) (cG := G.2.1 1) (N' := 720) (a0 := (720, .inl (fun _ => 0))) (k := 42) C wz_ar1 rfl rfl (fun _ h => h) (fun _ => rfl) (by decide) rfl (by decide) (Nat.le_of_ble_eq_true rfl) (Nat.le_of_ble_eq_true rfl) dX8_init_364 rfl inX8 tyX8_ok nmX8 (by decide) fz_X8_137 rfl rfl (fun _ => rfl) (fun _ => rfl) hfl dX8_init_366 hP hD hS hA (fun q33 H locs hfl hP hD hS => ?_)
  refine lv_aload_n C.1.1 C.1.2.1 dX8_init_369 rfl (lv_at hl 0 rfl) ?_
  refine lv_sipush (v := 28800) C.1.1 C.1.2.1 dX8_init_370 (by decide) ?_
  refine z_grp (j := 3) (cG := G.2.1 3) (N' := 28800) (a0 := (28800, .inl (fun _ => 0))) (k := 43) C wz_ar3 rfl rfl (fun _ h => h) (fun _ => rfl) (by decide) rfl (by decide) (Nat.le_of_ble_eq_true rfl) (Nat.le_of_ble_eq_true rfl) dX8_init_373 rfl inX8 tyX8_ok nmX8 (by decide) fz_X8_140 rfl rfl (fun _ => rfl) (fun _ => rfl) hfl dX8_init_375 hP hD hS hA (fun q34 H locs hfl hP hD hS => ?_)
  refine lv_aload_n C.1.1 C.1.2.1 dX8_init_378 rfl (lv_at hl 0 rfl) ?_
  refine lv_sipush (v := 14400) C.1.1 C.1.2.1 dX8_init_379 (by decide) ?_
  refine z_grp (j := 1) (cG := G.2.1 1) (N' := 14400) (a0 := (14400, .inl (fun _ => 0))) (k := 44) C wz_ar1 rfl rfl (fun _ h => h) (fun _ => rfl) (by decide) rfl (by decide) (Nat.le_of_ble_eq_true rfl) (Nat.le_of_ble_eq_true rfl) dX8_init_382 rfl inX8 tyX8_ok nmX8 (by decide) fz_X8_143 rfl rfl (fun _ => rfl) (fun _ => rfl) hfl dX8_init_384 hP hD hS hA (fun q35 H locs hfl hP hD hS => ?_)
  refine lv_aload_n C.1.1 C.1.2.1 dX8_init_387 rfl (lv_at hl 0 rfl) ?_
  refine lv_sipush (v := 14400) C.1.1 C.1.2.1 dX8_init_388 (by decide) ?_
  refine z_grp (j := 1) (cG := G.2.1 1) (N' := 14400) (a0 := (14400, .inl (fun _ => 0))) (k := 45) C wz_ar1 rfl rfl (fun _ h => h) (fun _ => rfl) (by decide) rfl (by decide) (Nat.le_of_ble_eq_true rfl) (Nat.le_of_ble_eq_true rfl) dX8_init_391 rfl inX8 tyX8_ok nmX8 (by decide) fz_X8_146 rfl rfl (fun _ => rfl) (fun _ => rfl) hfl dX8_init_393 hP hD hS hA (fun q36 H locs hfl hP hD hS => ?_)
  refine lv_aload_n C.1.1 C.1.2.1 dX8_init_396 rfl (lv_at hl 0 rfl) ?_
  refine lv_bipush (v := 24) C.1.1 C.1.2.1 dX8_init_397 (by decide) ?_
  refine z_grp (j := 1) (cG := G.2.1 1) (N' := 24) (a0 := (24, .inl (fun _ => 0))) (k := 49) C wz_ar1 rfl rfl (fun _ h => h) (fun _ => rfl) (by decide) rfl (by decide) (Nat.le_of_ble_eq_true rfl) (Nat.le_of_ble_eq_true rfl) dX8_init_399 rfl inX8 tyX8_ok nmX8 (by decide) fz_X8_149 rfl rfl (fun _ => rfl) (fun _ => rfl) hfl dX8_init_401 hP hD hS hA (fun q37 H locs hfl hP hD hS => ?_)
  refine lv_aload_n C.1.1 C.1.2.1 dX8_init_404 rfl (lv_at hl 0 rfl) ?_
  refine lv_bipush (v := 24) C.1.1 C.1.2.1 dX8_init_405 (by decide) ?_
  refine z_grp (j := 1) (cG := G.2.1 1) (N' := 24) (a0 := (24, .inl (fun _ => 0))) (k := 51) C wz_ar1 rfl rfl (fun _ h => h) (fun _ => rfl) (by decide) rfl (by decide) (Nat.le_of_ble_eq_true rfl) (Nat.le_of_ble_eq_true rfl) dX8_init_407 rfl inX8 tyX8_ok nmX8 (by decide) fz_X8_152 rfl rfl (fun _ => rfl) (fun _ => rfl) hfl dX8_init_409 hP hD hS hA (fun q38 H locs hfl hP hD hS => ?_)
  refine lv_aload_n C.1.1 C.1.2.1 dX8_init_412 rfl (lv_at hl 0 rfl) ?_
  refine lv_bipush (v := 24) C.1.1 C.1.2.1 dX8_init_413 (by decide) ?_
  refine z_grp (j := 1) (cG := G.2.1 1) (N' := 24) (a0 := (24, .inl (fun _ => 0))) (k := 55) C wz_ar1 rfl rfl (fun _ h => h) (fun _ => rfl) (by decide) rfl (by decide) (Nat.le_of_ble_eq_true rfl) (Nat.le_of_ble_eq_true rfl) dX8_init_415 rfl inX8 tyX8_ok nmX8 (by decide) fz_X8_155 rfl rfl (fun _ => rfl) (fun _ => rfl) hfl dX8_init_417 hP hD hS hA (fun q39 H locs hfl hP hD hS => ?_)
  refine lv_aload_n C.1.1 C.1.2.1 dX8_init_420 rfl (lv_at hl 0 rfl) ?_
  refine lv_sipush (v := 576) C.1.1 C.1.2.1 dX8_init_421 (by decide) ?_
  refine z_grp (j := 3) (cG := G.2.1 3) (N' := 576) (a0 := (576, .inl (fun _ => 0))) (k := 57) C wz_ar3 rfl rfl (fun _ h => h) (fun _ => rfl) (by decide) rfl (by decide) (Nat.le_of_ble_eq_true rfl) (Nat.le_of_ble_eq_true rfl) dX8_init_424 rfl inX8 tyX8_ok nmX8 (by decide) fz_X8_158 rfl rfl (fun _ => rfl) (fun _ => rfl) hfl dX8_init_426 hP hD hS hA (fun q40 H locs hfl hP hD hS => ?_)
  subst hAe
  refine W.widen (k := 40) (n := 71736) (Nat.le_of_ble_eq_true rfl) (Nat.le_of_ble_eq_true rfl) ?_
  exact z_ret (ad := fun i => match i with | 1 => q1 | 2 => q2 | 3 => q3 | 4 => q4 | 5 => q5 | 6 => q6 | 7 => q7 | 8 => q8 | 9 => q9 | 10 => q10 | 11 => q11 | 12 => q12 | 13 => q13 | 14 => q14 | 15 => q15 | 16 => q16 | 17 => q17 | 18 => q18 | 19 => q19 | 20 => q20 | 21 => q21 | 22 => q22 | 23 => q23 | 24 => q24 | 25 => q25 | 26 => q26 | 27 => q27 | 28 => q28 | 29 => q29 | 30 => q30 | 31 => q31 | 32 => q32 | 33 => q33 | 34 => q34 | 35 => q35 | 36 => q36 | 37 => q37 | 38 => q38 | 39 => q39 | 40 => q40 | _ => 0) (w1 := vX8 G h0) C hP hD hS dX8_init_429
