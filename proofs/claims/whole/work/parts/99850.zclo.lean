/-! constructors: Closer, Reader -/
def vX0 (G : GG) (h0 f0 t0 : Nat) (ad : Nat → Nat) : va_W := [(h0, .inr (0, [.ref f0, .ref t0, .ref (ad 1), .ref (ad 2), .int 0])), (ad 1, .inl (G.2.1 1, 360, .inl (fun _ => 0))), (ad 2, .inl (G.2.1 1, 120, .inl (fun _ => 0)))]
set_option maxHeartbeats 4000000 in
set_option maxRecDepth 100000 in
theorem z_X0 (l : Launch) (G : GG) (h0 sz f0 f1 t0 : Nat) (ffs : List Value) (tf : Nat → Option Nat) (hf : ffs[0]? = some (.ref f1)) (ht : tf 0 = some t0) : CnZ l yX0_init cX0_init 2 1 14 2 480 G [.ref h0, .ref f0] sz [(h0, .inr (0, dX0))] [(f0, .inr (2, ffs)), (f1, .inl (G.2.1 4, 24, .inr (.inr (.inr (.inr tf)))))] (vX0 G h0 f0 t0) := by
  refine cz_body (by decide) rfl (Nat.le_of_ble_eq_true rfl) ?_
  intro p e s m args below meth c ls C hsz hP0 hD0 hl
  subst hsz
  have hD := (vD_left hD0).self (sz := s.heap.size)
  have hA : ∀ q : Nat, s.heap.size ≤ q → va_A [(h0, .inr (0, dX0))] s.heap.size q := fun q h => Or.inr h
  have hS : va_S (va_A [(h0, .inr (0, dX0))] s.heap.size) s.heap s.heap [] := va_S.rf
  have hro : ∀ {H : Heap} {locs : List Loc}, va_S (va_A [(h0, .inr (0, dX0))] s.heap.size) s.heap H locs → va_P G.1 vwCl [(f0, .inr (2, ffs)), (f1, .inl (G.2.1 4, 24, .inr (.inr (.inr (.inr tf)))))] H := fun hS => ro_kept hP0 hD0 hS
  have hP : va_P G.1 vwCl [(h0, .inr (0, [.null, .null, .null, .null, .int 0]))] s.heap := vP_left hP0
  generalize hAe : va_A [(h0, .inr (0, dX0))] s.heap.size = A at hD hA hS hro
  have hD : va_D A [(h0, .inr (0, [.null, .null, .null, .null, .int 0]))] := hD
  refine lv_aload_n C.1.1 C.1.2.1 dX0_init_0 rfl (lv_at hl 0 rfl) ?_
  refine W.objInit C.1.1 C.1.2.1 C.1.2.2.2.1 (C.1.2.2.2.2 _ wz_oi0) (C.1.2.2.2.2 _ wz_ob1) (C.1.2.2.2.2 _ wz_ob2) rfl (hl.1.trans C.1.2.2.1.symm) rfl dX0_init_1 (Nat.le_of_ble_eq_true rfl) (Nat.le_of_ble_eq_true rfl) ?_
  refine lv_aload_n C.1.1 C.1.2.1 dX0_init_4 rfl (lv_at hl 0 rfl) ?_
  refine lv_sipush (v := 360) C.1.1 C.1.2.1 dX0_init_5 (by decide) ?_
  refine z_newa (j := 1) (cG := G.2.1 1) (N' := 360) (a0 := (360, .inl (fun _ => 0))) C wz_ar1 rfl rfl (fun _ h => h) hP hD hS hA (fun _ => rfl) (by decide) rfl (by decide) (Nat.le_of_ble_eq_true rfl) (Nat.le_of_ble_eq_true rfl) dX0_init_8 (fun q1 H hP hD hS => ?_)
  refine z_putF (k := 2) (fs := [.null, .null, .null, .null, .int 0]) (rw_ := [(q1, .inl (G.2.1 1, 360, .inl (fun _ => 0)))]) C rfl inX0 tyX0_ok nmX0 (by decide) fz_X0_9 rfl rfl rfl rfl (Nat.le_of_ble_eq_true rfl) hP hD hS dX0_init_10 (fun H locs hP hD hS => ?_)
  refine lv_aload_n C.1.1 C.1.2.1 dX0_init_13 rfl (lv_at hl 0 rfl) ?_
  refine lv_bipush (v := 120) C.1.1 C.1.2.1 dX0_init_14 (by decide) ?_
  refine z_newa (j := 1) (cG := G.2.1 1) (N' := 120) (a0 := (120, .inl (fun _ => 0))) C wz_ar1 rfl rfl (fun _ h => h) hP hD hS hA (fun _ => rfl) (by decide) rfl (by decide) (Nat.le_of_ble_eq_true rfl) (Nat.le_of_ble_eq_true rfl) dX0_init_16 (fun q2 H hP hD hS => ?_)
  refine z_putF (k := 3) (fs := [.null, .null, .ref q1, .null, .int 0]) (rw_ := [(q1, .inl (G.2.1 1, 360, .inl (fun _ => 0))), (q2, .inl (G.2.1 1, 120, .inl (fun _ => 0)))]) C rfl inX0 tyX0_ok nmX0 (by decide) fz_X0_15 rfl rfl rfl rfl (Nat.le_of_ble_eq_true rfl) hP hD hS dX0_init_18 (fun H locs hP hD hS => ?_)
  refine lv_aload_n C.1.1 C.1.2.1 dX0_init_21 rfl (lv_at hl 0 rfl) ?_
  refine lv_aload_n C.1.1 C.1.2.1 dX0_init_22 rfl (lv_at hl 1 rfl) ?_
  refine z_put (k := 0) (fs := [.null, .null, .ref q1, .ref q2, .int 0]) (rw_ := [(q1, .inl (G.2.1 1, 360, .inl (fun _ => 0))), (q2, .inl (G.2.1 1, 120, .inl (fun _ => 0)))]) C rfl inX0 tyX0_ok nmX0 (by decide) fz_X0_18 rfl rfl rfl (Nat.le_of_ble_eq_true rfl) hP hD hS dX0_init_23 (fun H locs hP hD hS => ?_)
  refine lv_aload_n C.1.1 C.1.2.1 dX0_init_26 rfl (lv_at hl 0 rfl) ?_
  refine lv_aload_n C.1.1 C.1.2.1 dX0_init_27 rfl (lv_at hl 1 rfl) ?_
  refine z_get C fl_X0_22 (hro hS) 0 rfl hf dX0_init_28 ?_
  refine lv_iconst (v := 0) C.1.1 C.1.2.1 dX0_init_31 (by decide) ?_
  refine va_aldq C.1.1 C.1.2.1 C.2.2.2.2.1 (hro hS) 1 4 rfl rfl (i := 0) (by unfold vp_in; decide) dX0_init_32 ?_
  have et : va_rf (tf (0 : Int32).toNatClampNeg) = .ref t0 := by
    show va_rf (tf 0) = _
    rw [ht]; rfl
  rw [et]
  refine z_put (k := 1) (fs := [.ref f0, .null, .ref q1, .ref q2, .int 0]) (rw_ := [(q1, .inl (G.2.1 1, 360, .inl (fun _ => 0))), (q2, .inl (G.2.1 1, 120, .inl (fun _ => 0)))]) C rfl inX0 tyX0_ok nmX0 (by decide) fz_X0_28 rfl rfl rfl (Nat.le_of_ble_eq_true rfl) hP hD hS dX0_init_33 (fun H locs hP hD hS => ?_)
  subst hAe
  refine W.widen (k := 2) (n := 480) (by decide) (by decide) ?_
  exact z_ret (ad := fun i => match i with | 1 => q1 | 2 => q2 | _ => 0) (w1 := vX0 G h0 f0 t0) C hP hD hS dX0_init_36
def vX4 (G : GG) (h0 k0 f0 t0 m0 : Nat) (ad : Nat → Nat) : va_W := [(h0, .inr (4, [.ref k0, .ref (ad 2), .ref (ad 1), .ref f0, .int 0, .int 0, .long 0, .int 0, .int 0, .int 0, .int 0, .int 0, .ref t0, .int 0, .ref m0])), (ad 1, .inl (G.2.1 2, 572, .inr (.inl (fun _ => 0)))), (ad 2, .inr (0, [.ref f0, .ref t0, .ref (ad 3), .ref (ad 4), .int 0])), (ad 3, .inl (G.2.1 1, 360, .inl (fun _ => 0))), (ad 4, .inl (G.2.1 1, 120, .inl (fun _ => 0)))]
set_option maxHeartbeats 4000000 in
set_option maxRecDepth 100000 in
theorem z_X4 (l : Launch) (G : GG) (h0 sz k0 f0 f1 f2 t0 m0 : Nat) (ffs : List Value) (tf mf : Nat → Option Nat) (hf : ffs[0]? = some (.ref f1)) (hf2 : ffs[2]? = some (.ref f2)) (ht : tf 0 = some t0) (hm : mf 0 = some m0) : CnZ l yX4_init cX4_init 3 2 35 4 1057 G [.ref h0, .ref k0, .ref f0] sz [(h0, .inr (4, dX4))] [(f0, .inr (2, ffs)), (f1, .inl (G.2.1 4, 24, .inr (.inr (.inr (.inr tf))))), (f2, .inl (G.2.1 5, 121, .inr (.inr (.inr (.inr mf)))))] (vX4 G h0 k0 f0 t0 m0) := by
  refine cz_body (by decide) rfl (Nat.le_of_ble_eq_true rfl) ?_
  intro p e s m args below meth c ls C hsz hP0 hD0 hl
  subst hsz
  have hD := (vD_left hD0).self (sz := s.heap.size)
  have hA : ∀ q : Nat, s.heap.size ≤ q → va_A [(h0, .inr (4, dX4))] s.heap.size q := fun q h => Or.inr h
  have hS : va_S (va_A [(h0, .inr (4, dX4))] s.heap.size) s.heap s.heap [] := va_S.rf
  have hro : ∀ {H : Heap} {locs : List Loc}, va_S (va_A [(h0, .inr (4, dX4))] s.heap.size) s.heap H locs → va_P G.1 vwCl [(f0, .inr (2, ffs)), (f1, .inl (G.2.1 4, 24, .inr (.inr (.inr (.inr tf))))), (f2, .inl (G.2.1 5, 121, .inr (.inr (.inr (.inr mf)))))] H := fun hS => ro_kept hP0 hD0 hS
  have hrd : ∀ {wn : va_W}, va_D (va_A [(h0, .inr (4, dX4))] s.heap.size) wn → va_D (fun _ => True) (wn ++ [(f0, .inr (2, ffs)), (f1, .inl (G.2.1 4, 24, .inr (.inr (.inr (.inr tf))))), (f2, .inl (G.2.1 5, 121, .inr (.inr (.inr (.inr mf)))))]) := fun h => roD hP0 hD0 h
  have hP : va_P G.1 vwCl [(h0, .inr (4, [.null, .null, .null, .null, .int 0, .int 0, .long 0, .int 0, .int 0, .int 0, .int 0, .int 0, .null, .int 0, .null]))] s.heap := vP_left hP0
  generalize hAe : va_A [(h0, .inr (4, dX4))] s.heap.size = A at hD hA hS hro hrd
  have hD : va_D A [(h0, .inr (4, [.null, .null, .null, .null, .int 0, .int 0, .long 0, .int 0, .int 0, .int 0, .int 0, .int 0, .null, .int 0, .null]))] := hD
  refine lv_aload_n C.1.1 C.1.2.1 dX4_init_0 rfl (lv_at hl 0 rfl) ?_
  refine W.objInit C.1.1 C.1.2.1 C.1.2.2.2.1 (C.1.2.2.2.2 _ wz_oi4) (C.1.2.2.2.2 _ wz_ob1) (C.1.2.2.2.2 _ wz_ob2) rfl (hl.1.trans C.1.2.2.1.symm) rfl dX4_init_1 (Nat.le_of_ble_eq_true rfl) (Nat.le_of_ble_eq_true rfl) ?_
  refine lv_aload_n C.1.1 C.1.2.1 dX4_init_4 rfl (lv_at hl 0 rfl) ?_
  refine lv_sipush (v := 572) C.1.1 C.1.2.1 dX4_init_5 (by decide) ?_
  refine z_newa (j := 2) (cG := G.2.1 2) (N' := 572) (a0 := (572, .inr (.inl (fun _ => 0)))) C wz_ar2 rfl rfl (fun _ h => h) hP hD hS hA (fun _ => rfl) (by decide) rfl (by decide) (Nat.le_of_ble_eq_true rfl) (Nat.le_of_ble_eq_true rfl) dX4_init_8 (fun q1 H hP hD hS => ?_)
  refine z_putF (k := 2) (fs := [.null, .null, .null, .null, .int 0, .int 0, .long 0, .int 0, .int 0, .int 0, .int 0, .int 0, .null, .int 0, .null]) (rw_ := [(q1, .inl (G.2.1 2, 572, .inr (.inl (fun _ => 0))))]) C rfl inX4 tyX4_ok nmX4 (by decide) fz_X4_9 rfl rfl rfl rfl (Nat.le_of_ble_eq_true rfl) hP hD hS dX4_init_10 (fun H locs hP hD hS => ?_)
  refine lv_aload_n C.1.1 C.1.2.1 dX4_init_13 rfl (lv_at hl 0 rfl) ?_
  refine lv_aload_n C.1.1 C.1.2.1 dX4_init_14 rfl (lv_at hl 1 rfl) ?_
  refine z_putF (k := 0) (fs := [.null, .null, .ref q1, .null, .int 0, .int 0, .long 0, .int 0, .int 0, .int 0, .int 0, .int 0, .null, .int 0, .null]) (rw_ := [(q1, .inl (G.2.1 2, 572, .inr (.inl (fun _ => 0))))]) C rfl inX4 tyX4_ok nmX4 (by decide) fz_X4_15 rfl rfl rfl rfl (Nat.le_of_ble_eq_true rfl) hP hD hS dX4_init_15 (fun H locs hP hD hS => ?_)
  refine lv_aload_n C.1.1 C.1.2.1 dX4_init_18 rfl (lv_at hl 0 rfl) ?_
  refine lv_aload_n C.1.1 C.1.2.1 dX4_init_19 rfl (lv_at hl 2 rfl) ?_
  refine z_put (k := 3) (fs := [.ref k0, .null, .ref q1, .null, .int 0, .int 0, .long 0, .int 0, .int 0, .int 0, .int 0, .int 0, .null, .int 0, .null]) (rw_ := [(q1, .inl (G.2.1 2, 572, .inr (.inl (fun _ => 0))))]) C rfl inX4 tyX4_ok nmX4 (by decide) fz_X4_19 rfl rfl rfl (Nat.le_of_ble_eq_true rfl) hP hD hS dX4_init_20 (fun H locs hP hD hS => ?_)
  refine lv_aload_n C.1.1 C.1.2.1 dX4_init_23 rfl (lv_at hl 0 rfl) ?_
  refine va_new (ci := 0) (fs := dX0) (C := RX0) (T := TX0) (N := 5) C.1.1 C.1.2.1 C.1.2.2.2.2 inX0 tyX0 tyX0_ok C.1.2.2.2.1 (C.1.2.2.2.2 _ wz_cl_4_23) (C.1.2.2.2.2 _ wz_in0) (C.1.2.2.2.2 _ wq_X0) C.2.2.2.2.1 hP hD hS hA rfl (by decide) (Nat.le_of_ble_eq_true rfl) (Nat.le_of_ble_eq_true rfl) dX4_init_24 (fun q2 H hP hD hS => ?_)
  refine lv_dup C.1.1 C.1.2.1 dX4_init_27 rfl ?_
  refine lv_aload_n C.1.1 C.1.2.1 dX4_init_28 rfl (lv_at hl 2 rfl) ?_
  have hdc : va_D A [(q2, .inr (0, dX0))] := hD.sub (ws' := [(q2, .inr (0, dX0))]) [2] (by decide) rfl
  have hr := hro hS
  refine z_callI (As := [.ref f0]) (rest := [.ref q2, .ref h0]) (wr := [(h0, .inr (4, [.ref k0, .null, .ref q1, .ref f0, .int 0, .int 0, .long 0, .int 0, .int 0, .int 0, .int 0, .int 0, .null, .int 0, .null])), (q1, .inl (G.2.1 2, 572, .inr (.inl (fun _ => 0))))]) (wc := [(q2, .inr (0, dX0))]) (wro := [(f0, .inr (2, ffs)), (f1, .inl (G.2.1 4, 24, .inr (.inr (.inr (.inr tf)))))]) C (z_X0 l G q2 H.size f0 f1 t0 ffs tf hf ht) wz_ml_4_25 wz_ii0 wz_cd0 wq_X0 rfl wz_dd0 ⟨Nat.le_of_ble_eq_true rfl, Nat.le_of_ble_eq_true rfl⟩ hl.1 rfl rfl (Nat.le_of_ble_eq_true rfl) ⟨Nat.le_of_ble_eq_true rfl, Nat.le_of_ble_eq_true rfl⟩ hP hD hS hA (hr.sub [0, 1] rfl) ((hrd hdc).sub (ws' := [(q2, .inr (0, dX0)), (f0, .inr (2, ffs)), (f1, .inl (G.2.1 4, 24, .inr (.inr (.inr (.inr tf)))))]) [0, 1, 2] (by decide) rfl) dX4_init_29 (fun ad H locs hP hD hS => ?_)
  refine z_putF (k := 1) (fs := [.ref k0, .null, .ref q1, .ref f0, .int 0, .int 0, .long 0, .int 0, .int 0, .int 0, .int 0, .int 0, .null, .int 0, .null]) (rw_ := (q1, .inl (G.2.1 2, 572, .inr (.inl (fun _ => 0)))) :: vX0 G q2 f0 t0 ad) C rfl inX4 tyX4_ok nmX4 (by decide) fz_X4_28 rfl rfl rfl rfl (Nat.le_of_ble_eq_true rfl) hP hD hS dX4_init_32 (fun H locs hP hD hS => ?_)
  refine lv_aload_n C.1.1 C.1.2.1 dX4_init_35 rfl (lv_at hl 0 rfl) ?_
  refine lv_aload_n C.1.1 C.1.2.1 dX4_init_36 rfl (lv_at hl 2 rfl) ?_
  refine z_get C fl_X4_32 (hro hS) 0 rfl hf dX4_init_37 ?_
  refine lv_iconst (v := 0) C.1.1 C.1.2.1 dX4_init_40 (by decide) ?_
  refine va_aldq C.1.1 C.1.2.1 C.2.2.2.2.1 (hro hS) 1 4 rfl rfl (i := 0) (by unfold vp_in; decide) dX4_init_41 ?_
  have et : va_rf (tf (0 : Int32).toNatClampNeg) = .ref t0 := by
    show va_rf (tf 0) = _
    rw [ht]; rfl
  rw [et]
  refine z_put (k := 12) (fs := [.ref k0, .ref q2, .ref q1, .ref f0, .int 0, .int 0, .long 0, .int 0, .int 0, .int 0, .int 0, .int 0, .null, .int 0, .null]) (rw_ := (q1, .inl (G.2.1 2, 572, .inr (.inl (fun _ => 0)))) :: vX0 G q2 f0 t0 ad) C rfl inX4 tyX4_ok nmX4 (by decide) fz_X4_38 rfl rfl rfl (Nat.le_of_ble_eq_true rfl) hP hD hS dX4_init_42 (fun H locs hP hD hS => ?_)
  refine lv_aload_n C.1.1 C.1.2.1 dX4_init_45 rfl (lv_at hl 0 rfl) ?_
  refine lv_aload_n C.1.1 C.1.2.1 dX4_init_46 rfl (lv_at hl 2 rfl) ?_
  refine z_get C fl_X4_42 (hro hS) 0 rfl hf2 dX4_init_47 ?_
  refine lv_iconst (v := 0) C.1.1 C.1.2.1 dX4_init_50 (by decide) ?_
  refine va_aldq C.1.1 C.1.2.1 C.2.2.2.2.1 (hro hS) 2 5 rfl rfl (i := 0) (by unfold vp_in; decide) dX4_init_51 ?_
  have em : va_rf (mf (0 : Int32).toNatClampNeg) = .ref m0 := by
    show va_rf (mf 0) = _
    rw [hm]; rfl
  rw [em]
  refine z_put (k := 14) (fs := [.ref k0, .ref q2, .ref q1, .ref f0, .int 0, .int 0, .long 0, .int 0, .int 0, .int 0, .int 0, .int 0, .ref t0, .int 0, .null]) (rw_ := (q1, .inl (G.2.1 2, 572, .inr (.inl (fun _ => 0)))) :: vX0 G q2 f0 t0 ad) C rfl inX4 tyX4_ok nmX4 (by decide) fz_X4_46 rfl rfl rfl (Nat.le_of_ble_eq_true rfl) hP hD hS dX4_init_52 (fun H locs hP hD hS => ?_)
  subst hAe
  refine W.widen (k := 4) (n := 1057) (by decide) (by decide) ?_
  exact z_ret (ad := fun i => match i with | 1 => q1 | 2 => q2 | 3 => ad 1 | 4 => ad 2 | _ => 0) (w1 := vX4 G h0 k0 f0 t0 m0) C hP hD hS dX4_init_55
