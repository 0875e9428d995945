/-! constructors: CallCourt -/
theorem vX2_len (G : GG) (h0 : Nat) (ad : Nat → Nat) : (vX2 G h0 ad).length = 513 := by
  unfold vX2
  rw [List.length_append, List.length_append, TLs_len, MLs_len]
  rfl
theorem vX2_congr (G : GG) (h0 : Nat) {a a' : Nat → Nat} (h : ∀ k, 1 ≤ k → k < 513 → a' k = a k) : vX2 G h0 a' = vX2 G h0 a := by
  unfold vX2
  have e1 : fT (fun j r => a' (6 + 6 * j + r)) 24 = fT (fun j r => a (6 + 6 * j + r)) 24 := by
    funext j
    unfold fT
    by_cases c : j < 24
    · rw [if_pos c, if_pos c]; exact congrArg some (h _ (by omega) (by omega))
    · rw [if_neg c, if_neg c]
  have e2 : fT (fun j r => a' (150 + 3 * j + r)) 121 = fT (fun j r => a (150 + 3 * j + r)) 121 := by
    funext j
    unfold fT
    by_cases c : j < 121
    · rw [if_pos c, if_pos c]; exact congrArg some (h _ (by omega) (by omega))
    · rw [if_neg c, if_neg c]
  rw [e1, e2, TLs_congr G (b := fun j r => a (6 + 6 * j + r)) 24 (fun j hj r hr => h _ (by omega) (by omega)), MLs_congr G (b := fun j r => a (150 + 3 * j + r)) 121 (fun j hj r hr => h _ (by omega) (by omega)), h 1 (by omega) (by omega), h 2 (by omega) (by omega), h 3 (by omega) (by omega), h 4 (by omega) (by omega), h 5 (by omega) (by omega)]
def vX7 (G : GG) (h0 : Nat) (ad : Nat → Nat) : va_W := ((h0, .inr (7, [.ref (ad 1), .int 0, .int 0, .int 0, .ref (ad 2), .ref (ad 515), .ref (ad 1028), .ref (ad 1032), .ref (ad 1037)])) :: (ad 1, .inl (G.2.1 0, 4000, .inl (fun _ => 0))) :: vX2 G (ad 2) (fun k => ad (2 + k))) ++ vX2 G (ad 515) (fun k => ad (515 + k)) ++ vX5 G (ad 1028) (fun k => ad (1028 + k)) ++ vX4 G (ad 1032) (ad 1028) (ad 515) (ad 521) (ad 665) (fun k => ad (1032 + k)) ++ vX1 G (ad 1037) (ad 2) (fun k => ad (1037 + k))
def adC (q1 q2 q3 q4 q5 q6 : Nat) (a1 a2 a3 a4 a5 : Nat → Nat) : Nat → Nat := fun x => if x < 2 then q1 else if x < 515 then (if x = 2 then q2 else a1 (x - 2)) else if x < 1028 then (if x = 515 then q3 else a2 (x - 515)) else if x < 1032 then (if x = 1028 then q4 else a3 (x - 1028)) else if x < 1037 then (if x = 1032 then q5 else a4 (x - 1032)) else (if x = 1037 then q6 else a5 (x - 1037))
theorem vX7_adC (G : GG) (h0 q1 q2 q3 q4 q5 q6 : Nat) (a1 a2 a3 a4 a5 : Nat → Nat) : vX7 G h0 (adC q1 q2 q3 q4 q5 q6 a1 a2 a3 a4 a5) = ((h0, .inr (7, [.ref q1, .int 0, .int 0, .int 0, .ref q2, .ref q3, .ref q4, .ref q5, .ref q6])) :: (q1, .inl (G.2.1 0, 4000, .inl (fun _ => 0))) :: vX2 G q2 a1) ++ vX2 G q3 a2 ++ vX5 G q4 a3 ++ vX4 G q5 q4 q3 (a2 6) (a2 150) a4 ++ vX1 G q6 q2 a5 := by
  have e1 : adC q1 q2 q3 q4 q5 q6 a1 a2 a3 a4 a5 1 = q1 := rfl
  have e2 : adC q1 q2 q3 q4 q5 q6 a1 a2 a3 a4 a5 2 = q2 := rfl
  have e3 : adC q1 q2 q3 q4 q5 q6 a1 a2 a3 a4 a5 515 = q3 := rfl
  have e4 : adC q1 q2 q3 q4 q5 q6 a1 a2 a3 a4 a5 1028 = q4 := rfl
  have e5 : adC q1 q2 q3 q4 q5 q6 a1 a2 a3 a4 a5 1032 = q5 := rfl
  have e6 : adC q1 q2 q3 q4 q5 q6 a1 a2 a3 a4 a5 1037 = q6 := rfl
  have e7 : adC q1 q2 q3 q4 q5 q6 a1 a2 a3 a4 a5 521 = a2 6 := rfl
  have e8 : adC q1 q2 q3 q4 q5 q6 a1 a2 a3 a4 a5 665 = a2 150 := rfl
  unfold vX7
  rw [e1, e2, e3, e4, e5, e6, e7, e8, vX2_congr G q2 (a := a1) (fun k k0 k1 => by unfold adC; rw [if_neg (by omega), if_pos (by omega), if_neg (by omega), show 2 + k - 2 = k by omega]), vX2_congr G q3 (a := a2) (fun k k0 k1 => by unfold adC; rw [if_neg (by omega), if_neg (by omega), if_pos (by omega), if_neg (by omega), show 515 + k - 515 = k by omega])]
  rfl
set_option maxHeartbeats 4000000 in
set_option maxRecDepth 100000 in
theorem z_X7 (l : Launch) (G : GG) (h0 sz : Nat) : CnZ l yX7_init cX7_init 1 3 57 1041 37684 G [.ref h0] sz [(h0, .inr (7, dX7))] [] (vX7 G h0) := by
  refine cz_body (by decide) rfl (Nat.le_of_ble_eq_true rfl) ?_
  intro p e s m args below meth c ls C hsz hP hD0 hl
  subst hsz
  have hD := (vD_left hD0).self (sz := s.heap.size)
  have hA : ∀ q : Nat, s.heap.size ≤ q → va_A [(h0, .inr (7, dX7))] s.heap.size q := fun q h => Or.inr h
  have hS : va_S (va_A [(h0, .inr (7, dX7))] s.heap.size) s.heap s.heap [] := va_S.rf
  generalize hAe : va_A [(h0, .inr (7, dX7))] s.heap.size = A at hD hA hS
  have hP : va_P G.1 vwCl [(h0, .inr (7, [.null, .int 0, .int 0, .int 0, .null, .null, .null, .null, .null]))] s.heap := hP
  have hD : va_D A [(h0, .inr (7, [.null, .int 0, .int 0, .int 0, .null, .null, .null, .null, .null]))] := hD
  have r0 : ∀ {H : Heap}, va_P G.1 vwCl ([] : va_W) H := fun k q hk => by simp at hk
  refine lv_aload_n C.1.1 C.1.2.1 dX7_init_0 rfl (lv_at hl 0 rfl) ?_
  refine W.objInit C.1.1 C.1.2.1 C.1.2.2.2.1 (C.1.2.2.2.2 _ wz_oi7) (C.1.2.2.2.2 _ wz_ob1) (C.1.2.2.2.2 _ wz_ob2) rfl (hl.1.trans C.1.2.2.1.symm) rfl dX7_init_1 (Nat.le_of_ble_eq_true rfl) (Nat.le_of_ble_eq_true rfl) ?_
  refine lv_aload_n C.1.1 C.1.2.1 dX7_init_4 rfl (lv_at hl 0 rfl) ?_
  refine lv_sipush (v := 4000) C.1.1 C.1.2.1 dX7_init_5 (by decide) ?_
  refine z_newa (j := 0) (cG := G.2.1 0) (N' := 4000) (a0 := (4000, .inl (fun _ => 0))) C wz_ar0 rfl rfl (fun _ h => h) hP hD hS hA (fun _ => rfl) (by decide) rfl (by decide) (Nat.le_of_ble_eq_true rfl) (Nat.le_of_ble_eq_true rfl) dX7_init_8 (fun q1 H hP hD hS => ?_)
  refine z_putF (k := 0) (fs := [.null, .int 0, .int 0, .int 0, .null, .null, .null, .null, .null]) (rw_ := [(q1, .inl (G.2.1 0, 4000, .inl (fun _ => 0)))]) C rfl inX7 tyX7_ok nmX7 (by decide) fz_X7_9 rfl rfl rfl rfl (Nat.le_of_ble_eq_true rfl) hP hD hS dX7_init_10 (fun H locs hP hD hS => ?_)
  -- the family
  refine lv_aload_n C.1.1 C.1.2.1 dX7_init_13 rfl (lv_at hl 0 rfl) ?_
  refine va_new (ci := 2) (fs := dX2) (C := RX2) (T := TX2) (N := 9) C.1.1 C.1.2.1 C.1.2.2.2.2 inX2 tyX2 tyX2_ok C.1.2.2.2.1 (C.1.2.2.2.2 _ wz_cl_7_13) (C.1.2.2.2.2 _ wz_in2) (C.1.2.2.2.2 _ wq_X2) C.2.2.2.2.1 hP hD hS hA rfl (by decide) (Nat.le_of_ble_eq_true rfl) (Nat.le_of_ble_eq_true rfl) dX7_init_14 (fun q2 H hP hD hS => ?_)
  refine lv_dup C.1.1 C.1.2.1 dX7_init_17 rfl ?_
  refine z_callI (As := []) (rest := [.ref q2, .ref h0]) (wr := [(h0, .inr (7, [.ref q1, .int 0, .int 0, .int 0, .null, .null, .null, .null, .null])), (q1, .inl (G.2.1 0, 4000, .inl (fun _ => 0)))]) (wc := [(q2, .inr (2, dX2))]) (wro := []) C (z_X2 l G q2 H.size) wz_ml_7_15 wz_ii2 wz_cd2 wq_X2 rfl wz_dd2 ⟨Nat.le_of_ble_eq_true rfl, Nat.le_of_ble_eq_true rfl⟩ hl.1 rfl rfl (Nat.le_of_ble_eq_true rfl) ⟨Nat.le_of_ble_eq_true rfl, Nat.le_of_ble_eq_true rfl⟩ hP hD hS hA r0 one_D dX7_init_18 (fun a1 H locs hP hD hS => ?_)
  refine z_put (k := 4) (fs := [.ref q1, .int 0, .int 0, .int 0, .null, .null, .null, .null, .null]) (rw_ := (q1, .inl (G.2.1 0, 4000, .inl (fun _ => 0))) :: vX2 G q2 a1) C rfl inX7 tyX7_ok nmX7 (by decide) fz_X7_16 rfl rfl rfl (Nat.le_of_ble_eq_true rfl) hP hD hS dX7_init_21 (fun H locs hP hD hS => ?_)
  -- the spare one
  refine lv_aload_n C.1.1 C.1.2.1 dX7_init_24 rfl (lv_at hl 0 rfl) ?_
  refine va_new (ci := 2) (fs := dX2) (C := RX2) (T := TX2) (N := 9) C.1.1 C.1.2.1 C.1.2.2.2.2 inX2 tyX2 tyX2_ok C.1.2.2.2.1 (C.1.2.2.2.2 _ wz_cl_7_13) (C.1.2.2.2.2 _ wz_in2) (C.1.2.2.2.2 _ wq_X2) C.2.2.2.2.1 hP hD hS hA rfl (by decide) (Nat.le_of_ble_eq_true rfl) (Nat.le_of_ble_eq_true rfl) dX7_init_25 (fun q3 H hP hD hS => ?_)
  refine lv_dup C.1.1 C.1.2.1 dX7_init_28 rfl ?_
  refine z_callI (As := []) (rest := [.ref q3, .ref h0]) (wr := (h0, .inr (7, [.ref q1, .int 0, .int 0, .int 0, .ref q2, .null, .null, .null, .null])) :: (q1, .inl (G.2.1 0, 4000, .inl (fun _ => 0))) :: vX2 G q2 a1) (wc := [(q3, .inr (2, dX2))]) (wro := []) C (z_X2 l G q3 H.size) wz_ml_7_15 wz_ii2 wz_cd2 wq_X2 rfl wz_dd2 ⟨Nat.le_of_ble_eq_true rfl, Nat.le_of_ble_eq_true rfl⟩ hl.1 rfl rfl (Nat.le_of_ble_eq_true rfl) ⟨Nat.le_of_ble_eq_true rfl, Nat.le_of_ble_eq_true rfl⟩ hP hD hS hA r0 one_D dX7_init_29 (fun a2 H locs hP hD hS => ?_)
  refine z_put (k := 5) (fs := [.ref q1, .int 0, .int 0, .int 0, .ref q2, .null, .null, .null, .null]) (rw_ := ((q1, .inl (G.2.1 0, 4000, .inl (fun _ => 0))) :: vX2 G q2 a1) ++ vX2 G q3 a2) C rfl inX7 tyX7_ok nmX7 (by decide) fz_X7_20 rfl rfl rfl (Nat.le_of_ble_eq_true rfl) hP hD hS dX7_init_32 (fun H locs hP hD hS => ?_)
  -- tokens
  refine lv_aload_n C.1.1 C.1.2.1 dX7_init_35 rfl (lv_at hl 0 rfl) ?_
  refine va_new (ci := 5) (fs := dX5) (C := RX5) (T := TX5) (N := 5) C.1.1 C.1.2.1 C.1.2.2.2.2 inX5 tyX5 tyX5_ok C.1.2.2.2.1 (C.1.2.2.2.2 _ wz_cl_7_23) (C.1.2.2.2.2 _ wz_in5) (C.1.2.2.2.2 _ wq_X5) C.2.2.2.2.1 hP hD hS hA rfl (by decide) (Nat.le_of_ble_eq_true rfl) (Nat.le_of_ble_eq_true rfl) dX7_init_36 (fun q4 H hP hD hS => ?_)
  refine lv_dup C.1.1 C.1.2.1 dX7_init_39 rfl ?_
  refine z_callN (As := []) (rest := [.ref q4, .ref h0]) (wr := (h0, .inr (7, [.ref q1, .int 0, .int 0, .int 0, .ref q2, .ref q3, .null, .null, .null])) :: (((q1, .inl (G.2.1 0, 4000, .inl (fun _ => 0))) :: vX2 G q2 a1) ++ vX2 G q3 a2)) (wc := [(q4, .inr (5, dX5))]) (wro := []) C (z_X5 l G q4 H.size) wz_mn_7_25 wz_ii5 wz_cd5 wq_X5 rfl wz_dd5 ⟨Nat.le_of_ble_eq_true rfl, Nat.le_of_ble_eq_true rfl⟩ hl.1 rfl rfl (Nat.le_of_ble_eq_true rfl) ⟨Nat.le_of_ble_eq_true rfl, Nat.le_of_ble_eq_true rfl⟩ hP hD hS hA r0 one_D dX7_init_40 (fun a3 H locs hP hD hS => ?_)
  refine z_putF (k := 6) (fs := [.ref q1, .int 0, .int 0, .int 0, .ref q2, .ref q3, .null, .null, .null]) (rw_ := ((q1, .inl (G.2.1 0, 4000, .inl (fun _ => 0))) :: vX2 G q2 a1) ++ vX2 G q3 a2 ++ vX5 G q4 a3) C rfl inX7 tyX7_ok nmX7 (by decide) fz_X7_26 rfl rfl rfl rfl (Nat.le_of_ble_eq_true rfl) hP hD hS dX7_init_43 (fun H locs hP hD hS => ?_)
  -- the reader
  refine lv_aload_n C.1.1 C.1.2.1 dX7_init_46 rfl (lv_at hl 0 rfl) ?_
  refine va_new (ci := 4) (fs := dX4) (C := RX4) (T := TX4) (N := 15) C.1.1 C.1.2.1 C.1.2.2.2.2 inX4 tyX4 tyX4_ok C.1.2.2.2.1 (C.1.2.2.2.2 _ wz_cl_7_30) (C.1.2.2.2.2 _ wz_in4) (C.1.2.2.2.2 _ wq_X4) C.2.2.2.2.1 hP hD hS hA rfl (by decide) (Nat.le_of_ble_eq_true rfl) (Nat.le_of_ble_eq_true rfl) dX7_init_47 (fun q5 H hP hD hS => ?_)
  refine lv_dup C.1.1 C.1.2.1 dX7_init_50 rfl ?_
  refine lv_aload_n C.1.1 C.1.2.1 dX7_init_51 rfl (lv_at hl 0 rfl) ?_
  refine z_get C fl_X7_26 hP 0 rfl rfl dX7_init_52 ?_
  refine lv_aload_n C.1.1 C.1.2.1 dX7_init_55 rfl (lv_at hl 0 rfl) ?_
  refine z_get C fl_X7_20 hP 0 rfl rfl dX7_init_56 ?_
  obtain ⟨wr, ewr⟩ : ∃ wr : va_W, wr = (h0, .inr (7, [.ref q1, .int 0, .int 0, .int 0, .ref q2, .ref q3, .ref q4, .null, .null])) :: (((q1, .inl (G.2.1 0, 4000, .inl (fun _ => 0))) :: vX2 G q2 a1) ++ vX2 G q3 a2 ++ vX5 G q4 a3) := ⟨_, rfl⟩
  have hP : va_P G.1 vwCl (wr ++ [(q5, .inr (4, dX4))]) H := by rw [ewr]; exact hP
  have hD : va_D A (wr ++ [(q5, .inr (4, dX4))]) := by rw [ewr]; exact hD
  have wlen : wr.length = 1032 := by
    rw [ewr, List.length_cons, List.length_append, List.length_append, List.length_cons, vX2_len, vX2_len]
    rfl
  have wat : ∀ k, k < 513 → wr[515 + k]? = (vX2 G q3 a2)[k]? := by
    intro k hk
    rw [ewr, show 515 + k = (514 + k) + 1 by omega, List.getElem?_cons_succ, List.getElem?_append_left (by rw [List.length_append, List.length_cons, vX2_len, vX2_len]; omega), List.getElem?_append_right (by rw [List.length_cons, vX2_len]; omega), List.length_cons, vX2_len, show 514 + k - (513 + 1) = k by omega]
  have f3 : ∀ k q, ([(q3, .inr (2, [.ref (a2 1), .int 0, .ref (a2 2), .int 0, .ref (a2 3), .ref (a2 4), .ref (a2 5), .int 0, .int 0])), (a2 1, .inl (G.2.1 4, 24, .inr (.inr (.inr (.inr (fT (fun j r => a2 (6 + 6 * j + r)) 24)))))), (a2 2, .inl (G.2.1 5, 121, .inr (.inr (.inr (.inr (fT (fun j r => a2 (150 + 3 * j + r)) 121))))))] : va_W)[k]? = some q → (wr ++ [(q5, .inr (4, dX4))])[515 + k]? = some q := by
    intro k q hk
    have k3 := (List.getElem?_eq_some_iff.mp hk).1
    have k3' : k < 3 := k3
    rw [List.getElem?_append_left (by omega), wat k (by omega)]
    match k, k3', hk with
    | 0, _, hk => exact hk
    | 1, _, hk => exact hk
    | 2, _, hk => exact hk
  have hro : va_P G.1 vwCl [(q3, .inr (2, [.ref (a2 1), .int 0, .ref (a2 2), .int 0, .ref (a2 3), .ref (a2 4), .ref (a2 5), .int 0, .int 0])), (a2 1, .inl (G.2.1 4, 24, .inr (.inr (.inr (.inr (fT (fun j r => a2 (6 + 6 * j + r)) 24)))))), (a2 2, .inl (G.2.1 5, 121, .inr (.inr (.inr (.inr (fT (fun j r => a2 (150 + 3 * j + r)) 121))))))] H := fun k q hk => hP _ q (f3 k q hk)
  have hdr : va_D (fun _ => True) ([(q5, .inr (4, dX4))] ++ [(q3, .inr (2, [.ref (a2 1), .int 0, .ref (a2 2), .int 0, .ref (a2 3), .ref (a2 4), .ref (a2 5), .int 0, .int 0])), (a2 1, .inl (G.2.1 4, 24, .inr (.inr (.inr (.inr (fT (fun j r => a2 (6 + 6 * j + r)) 24)))))), (a2 2, .inl (G.2.1 5, 121, .inr (.inr (.inr (.inr (fT (fun j r => a2 (150 + 3 * j + r)) 121))))))]) := by
    have at1 : ∀ k q, ([(q5, .inr (4, dX4))] ++ [(q3, .inr (2, [.ref (a2 1), .int 0, .ref (a2 2), .int 0, .ref (a2 3), .ref (a2 4), .ref (a2 5), .int 0, .int 0])), (a2 1, .inl (G.2.1 4, 24, .inr (.inr (.inr (.inr (fT (fun j r => a2 (6 + 6 * j + r)) 24)))))), (a2 2, .inl (G.2.1 5, 121, .inr (.inr (.inr (.inr (fT (fun j r => a2 (150 + 3 * j + r)) 121))))))] : va_W)[k]? = some q → (wr ++ [(q5, .inr (4, dX4))])[if k = 0 then 1032 else 514 + k]? = some q := by
      intro k q hk
      by_cases c : k = 0
      · rw [if_pos c, List.getElem?_append_right (by omega), wlen]
        rw [c] at hk
        exact hk
      · rw [if_neg c]
        obtain ⟨k', ek⟩ : ∃ k', k = k' + 1 := ⟨k - 1, by omega⟩
        subst ek
        have := f3 k' q hk
        rw [show 514 + (k' + 1) = 515 + k' by omega]
        exact this
    refine ⟨fun i j p q hi hj he => ?_, fun _ _ _ => trivial⟩
    have li : i < 4 := (List.getElem?_eq_some_iff.mp hi).1
    have lj : j < 4 := (List.getElem?_eq_some_iff.mp hj).1
    have := hD.1 _ _ _ _ (at1 i p hi) (at1 j q hj) he
    split at this <;> split at this <;> omega
  refine z_callI (As := [.ref q4, .ref q3]) (rest := [.ref q5, .ref h0]) (wr := wr) (wc := [(q5, .inr (4, dX4))]) C (z_X4 l G q5 H.size q4 q3 (a2 1) (a2 2) (a2 6) (a2 150) _ _ _ rfl rfl rfl rfl) wz_ml_7_32 wz_ii4 wz_cd4 wq_X4 rfl wz_dd4 ⟨Nat.le_of_ble_eq_true rfl, Nat.le_of_ble_eq_true rfl⟩ hl.1 rfl rfl (Nat.le_of_ble_eq_true rfl) ⟨Nat.le_of_ble_eq_true rfl, Nat.le_of_ble_eq_true rfl⟩ hP hD hS hA hro hdr dX7_init_59 (fun a4 H locs hP hD hS => ?_)
  rw [ewr] at hP hD
  refine z_putF (k := 7) (fs := [.ref q1, .int 0, .int 0, .int 0, .ref q2, .ref q3, .ref q4, .null, .null]) (rw_ := ((q1, .inl (G.2.1 0, 4000, .inl (fun _ => 0))) :: vX2 G q2 a1) ++ vX2 G q3 a2 ++ vX5 G q4 a3 ++ vX4 G q5 q4 q3 (a2 6) (a2 150) a4) C rfl inX7 tyX7_ok nmX7 (by decide) fz_X7_35 rfl rfl rfl rfl (Nat.le_of_ble_eq_true rfl) hP hD hS dX7_init_62 (fun H locs hP hD hS => ?_)
  -- the docket
  refine lv_aload_n C.1.1 C.1.2.1 dX7_init_65 rfl (lv_at hl 0 rfl) ?_
  refine va_new (ci := 1) (fs := dX1) (C := RX1) (T := TX1) (N := 8) C.1.1 C.1.2.1 C.1.2.2.2.2 inX1 tyX1 tyX1_ok C.1.2.2.2.1 (C.1.2.2.2.2 _ wz_cl_7_39) (C.1.2.2.2.2 _ wz_in1) (C.1.2.2.2.2 _ wq_X1) C.2.2.2.2.1 hP hD hS hA rfl (by decide) (Nat.le_of_ble_eq_true rfl) (Nat.le_of_ble_eq_true rfl) dX7_init_66 (fun q6 H hP hD hS => ?_)
  refine lv_dup C.1.1 C.1.2.1 dX7_init_69 rfl ?_
  refine lv_aload_n C.1.1 C.1.2.1 dX7_init_70 rfl (lv_at hl 0 rfl) ?_
  refine z_get C fl_X7_16 hP 0 rfl rfl dX7_init_71 ?_
  refine z_callI (As := [.ref q2]) (rest := [.ref q6, .ref h0]) (wr := (h0, .inr (7, [.ref q1, .int 0, .int 0, .int 0, .ref q2, .ref q3, .ref q4, .ref q5, .null])) :: (((q1, .inl (G.2.1 0, 4000, .inl (fun _ => 0))) :: vX2 G q2 a1) ++ vX2 G q3 a2 ++ vX5 G q4 a3 ++ vX4 G q5 q4 q3 (a2 6) (a2 150) a4)) (wc := [(q6, .inr (1, dX1))]) (wro := []) C (z_X1 l G q6 H.size q2) wz_ml_7_41 wz_ii1 wz_cd1 wq_X1 rfl wz_dd1 ⟨Nat.le_of_ble_eq_true rfl, Nat.le_of_ble_eq_true rfl⟩ hl.1 rfl rfl (Nat.le_of_ble_eq_true rfl) ⟨Nat.le_of_ble_eq_true rfl, Nat.le_of_ble_eq_true rfl⟩ hP hD hS hA r0 one_D dX7_init_74 (fun a5 H locs hP hD hS => ?_)
  refine z_putF (k := 8) (fs := [.ref q1, .int 0, .int 0, .int 0, .ref q2, .ref q3, .ref q4, .ref q5, .null]) (rw_ := ((q1, .inl (G.2.1 0, 4000, .inl (fun _ => 0))) :: vX2 G q2 a1) ++ vX2 G q3 a2 ++ vX5 G q4 a3 ++ vX4 G q5 q4 q3 (a2 6) (a2 150) a4 ++ vX1 G q6 q2 a5) C rfl inX7 tyX7_ok nmX7 (by decide) fz_X7_44 rfl rfl rfl rfl (Nat.le_of_ble_eq_true rfl) hP hD hS dX7_init_77 (fun H locs hP hD hS => ?_)
  subst hAe
  refine W.widen (k := 1041) (n := 37684) (Nat.le_of_ble_eq_true rfl) (Nat.le_of_ble_eq_true rfl) ?_
  refine z_ret (ad := adC q1 q2 q3 q4 q5 q6 a1 a2 a3 a4 a5) (w1 := vX7 G h0) C ?_ ?_ hS dX7_init_80
  · rw [vX7_adC]; exact hP
  · rw [vX7_adC]; exact hD
