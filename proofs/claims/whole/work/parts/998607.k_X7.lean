/-! by program: the machine meets the models -/
set_option maxHeartbeats 4000000 in
set_option maxRecDepth 10000 in
theorem uX7_put_3_b {p : Program} {l : Launch} {e : Env} {s : State} {m : MethodId} {args : Array Value} {below : List Frame} {meth : Method} {c : Code} {G : GG} {SB : St} (C : Cx p s m args meth c G RX7 cX7_put 3 none) {S : St} {H : Heap} {locs : List Loc} {ls : Array Slot}  {P3 : Int → St → Prop} {k : St → Prop} (hw : Wd G ((injC SB) S) H) (hS : va_S (AG G) s.heap H locs) {xv1 : Int32} {x1 : Int} (xt1 : xv1.toInt = x1) {xv2 : Int32} {x2 : Int} (xt2 : xv2.toInt = x2) (hl : lv_has ls 3 [(0, .ref (G.2.2 0)), (1, .int xv1), (2, .int xv2)])  (hP3 : ∀ {H : Heap} {locs : List Loc} {ls : Array Slot} {Sy : St} {yv2 : Int32} {y2 : Int}, yv2.toInt = y2 → Wd G ((injC SB) Sy) H → va_S (AG G) s.heap H locs → lv_has ls 3 [(0, .ref (G.2.2 0)), (1, .int xv1), (2, .int yv2)] → P3 y2 Sy → W p l e (rmF 0 0) s m args below meth c H locs 0 0 (MQ below (QcV G (injC SB) k) args s 0 0 (AG G)) (F0 m 3 ls [])) (h : wX7_put_3_b S x1 x2 P3 k) : W p l e (rmF 0 0) s m args below meth c H locs 0 0 (MQ below (QcV G (injC SB) k) args s 0 0 (AG G)) (F0 m 3 ls []) := by
  refine lv_iload_n C.1.1 C.1.2.1 dX7_put_3 rfl (lv_at hl 2 rfl) ?_
  refine y_if_lt C xt2 dX7_put_4 (tgt := 46) (by decide) (fun c1 => ?_) (fun c1 => ?_)
  · have h := h.1 c1
    exact y_vret C hw hS h dX7_put_46
  · have h := h.2 c1
    refine lv_aload_n C.1.1 C.1.2.1 dX7_put_7 rfl (lv_at hl 0 rfl) ?_
    refine y_getI C fl_X7_48 hw (ock_7 SB) rfl dX7_put_8 (fun v2 t2 => ?_)
    refine y_sipush C dX7_put_11 ⟨by decide, by decide⟩ (fun v3 t3 => ?_)
    refine y_icmp_ge C t2 t3 dX7_put_14 (tgt := 46) (by decide) (fun c4 => ?_) (fun c4 => ?_)
    · have h := h.1 c4
      exact y_vret C hw hS h dX7_put_46
    · have h := h.2 c4
      refine lv_aload_n C.1.1 C.1.2.1 dX7_put_17 rfl (lv_at hl 0 rfl) ?_
      refine y_getA C fl_X7_9 hw (ock_7 SB) rfl (o := 1) rfl dX7_put_18 ?_
      refine lv_aload_n C.1.1 C.1.2.1 dX7_put_21 rfl (lv_at hl 0 rfl) ?_
      refine y_getI C fl_X7_48 hw (ock_7 SB) rfl dX7_put_22 (fun v6 t6 => ?_)
      refine lv_iload_n C.1.1 C.1.2.1 dX7_put_25 rfl (lv_at hl 1 rfl) ?_
      refine lv_iload_n C.1.1 C.1.2.1 dX7_put_26 rfl (lv_at hl 2 rfl) ?_
      refine y_iushr C xt1 xt2 dX7_put_27 (fun v7 t7 => ?_)
      refine y_i2b C t7 dX7_put_28 (fun v8 t8 => ?_)
      obtain ⟨b9, h⟩ := h
      obtain ⟨S_9, e9⟩ : ∃ z : St, z = up S 1 (S 0 1) (sb8 (sb8 (ushr32 x1 x2))) := ⟨_, rfl⟩
      have h := h S_9 e9
      refine y_bast C hw hS (ack_7_0 SB) t6 t8 b9 dX7_put_29 (fun H locs hw hS => ?_)
      have hw : Wd G ((injC SB) S_9) H := by rw [e9]; exact hw
      refine lv_aload_n C.1.1 C.1.2.1 dX7_put_30 rfl (lv_at hl 0 rfl) ?_
      refine lv_dup C.1.1 C.1.2.1 dX7_put_31 rfl ?_
      refine y_getI C fl_X7_48 hw (ock_7 SB) rfl dX7_put_32 (fun v10 t10 => ?_)
      refine y_iconst C dX7_put_35 ⟨by decide, by decide⟩ (fun v11 t11 => ?_)
      refine y_iadd C t10 t11 dX7_put_36 (fun v12 t12 => ?_)
      obtain ⟨S_13, e13⟩ : ∃ z : St, z = up S_9 0 1 (w32 (S_9 0 1 + 1)) := ⟨_, rfl⟩
      have h := h S_13 e13
      refine y_putI C fl_X7_48 fp_7_1 hw hS (ock_7 SB) rfl t12 dX7_put_37 (fun H locs hw hS => ?_)
      have hw : Wd G ((injC SB) S_13) H := by rw [e13]; exact hw
      obtain ⟨x_14, e14⟩ : ∃ z : Int, z = w32 (x2 + (-8)) := ⟨_, rfl⟩
      have h := h x_14 e14
      obtain ⟨v14, t14, g14⟩ : ∃ z : Int32, z.toInt = x_14 ∧ xv2 + Int32.ofInt (-8) = z := ⟨_, (ti_inc xt2 ⟨by decide, by decide⟩).trans e14.symm, rfl⟩
      refine lv_iinc (v := v14) (lv' := [(2, .int v14), (0, .ref (G.2.2 0)), (1, .int xv1)]) C.1.1 C.1.2.1 dX7_put_40 hl (k := 2) rfl g14 (by decide) rfl (fun ls hl => ?_)
      refine lv_goto (tgt := 3) C.1.1 C.1.2.1 dX7_put_43 (by decide) ?_
      exact hP3 t14 hw hS (lv_sub hl [1, 2, 0] rfl) h
set_option maxHeartbeats 4000000 in
set_option maxRecDepth 10000 in
theorem uX7_put_3 {p : Program} {l : Launch} {e : Env} {s : State} {m : MethodId} {args : Array Value} {below : List Frame} {meth : Method} {c : Code} {G : GG} {SB : St} (C : Cx p s m args meth c G RX7 cX7_put 3 none) {S : St} {H : Heap} {locs : List Loc} {ls : Array Slot}  {k : St → Prop} (hw : Wd G ((injC SB) S) H) (hS : va_S (AG G) s.heap H locs) {xv1 : Int32} {x1 : Int} (xt1 : xv1.toInt = x1) {xv2 : Int32} {x2 : Int} (xt2 : xv2.toInt = x2) (hl : lv_has ls 3 [(0, .ref (G.2.2 0)), (1, .int xv1), (2, .int xv2)])  (h : wX7_put_3 S x1 x2 k) : W p l e (rmF 0 0) s m args below meth c H locs 0 0 (MQ below (QcV G (injC SB) k) args s 0 0 (AG G)) (F0 m 3 ls []) := by
  have key : ∀ (n : Nat) {H : Heap} {locs : List Loc} {ls : Array Slot} {S : St} {xv2 : Int32} {x2 : Int}, xv2.toInt = x2 → Wd G ((injC SB) S) H → va_S (AG G) s.heap H locs → lv_has ls 3 [(0, .ref (G.2.2 0)), (1, .int xv1), (2, .int xv2)] → itP (fun (P : Int × St → Prop) (a : Int × St) => wX7_put_3_b a.2 x1 a.1 (fun b0 b1 => P (b0, b1)) k) n (x2, S) → W p l e (rmF 0 0) s m args below meth c H locs 0 0 (MQ below (QcV G (injC SB) k) args s 0 0 (AG G)) (F0 m 3 ls []) := by
    intro n
    induction n with
    | zero => intro H locs ls S xv2 x2 xt2 hw hS hl h; exact h.elim
    | succ n ih =>
      intro H locs ls S xv2 x2 xt2 hw hS hl h
      exact uX7_put_3_b C hw hS xt1 xt2 hl  (P3 := fun b0 b1 => itP _ n (b0, b1)) (fun q0 hw hS hl h => ih q0 hw hS hl h) h
  obtain ⟨n, hn⟩ := h
  exact key n xt2 hw hS hl hn
set_option maxHeartbeats 4000000 in
set_option maxRecDepth 10000 in
theorem uX7_put_0 {p : Program} {l : Launch} {e : Env} {s : State} {m : MethodId} {args : Array Value} {below : List Frame} {meth : Method} {c : Code} {G : GG} {SB : St} (C : Cx p s m args meth c G RX7 cX7_put 3 none) {S : St} {H : Heap} {locs : List Loc} {ls : Array Slot}  {k : St → Prop} (hw : Wd G ((injC SB) S) H) (hS : va_S (AG G) s.heap H locs) {xv1 : Int32} {x1 : Int} (xt1 : xv1.toInt = x1) (hl : lv_has ls 3 [(0, .ref (G.2.2 0)), (1, .int xv1)])  (h : wX7_put_0 S x1 k) : W p l e (rmF 0 0) s m args below meth c H locs 0 0 (MQ below (QcV G (injC SB) k) args s 0 0 (AG G)) (F0 m 0 ls []) := by
  refine y_bipush C dX7_put_0 ⟨by decide, by decide⟩ (fun v1 t1 => ?_)
  refine lv_istore_n (lv' := [(2, .int v1), (0, .ref (G.2.2 0)), (1, .int xv1)]) C.1.1 C.1.2.1 dX7_put_2 rfl hl (by decide) rfl (fun ls hl => ?_)
  exact uX7_put_3 C hw hS xt1 t1 (lv_sub hl [1, 2, 0] rfl)  h
theorem kX7_put (l : Launch) (G : GG) (SB S : St) {xv1 : Int32} {x1 : Int} (xt1 : xv1.toInt = x1) {k : St → Prop} (h : wX7_put S x1 k) : CnV l yX7_put cX7_put 3 none 0 0 G (injC SB) [.ref (G.2.2 0), .int xv1] S k :=
  cn_body (by decide +kernel) (Nat.le_of_ble_eq_true rfl) (fun p e s m args below meth c ls C hw hl => uX7_put_0 C hw va_S.rf xt1 (lv_sub hl [0, 1] rfl) h)
set_option maxHeartbeats 4000000 in
set_option maxRecDepth 10000 in
theorem uX7_feed_0 {p : Program} {l : Launch} {e : Env} {s : State} {m : MethodId} {args : Array Value} {below : List Frame} {meth : Method} {c : Code} {G : GG} {SB : St} (C : Cx p s m args meth c G RX7 cX7_feed 6 (some .int)) {S : St} {H : Heap} {locs : List Loc} {ls : Array Slot}  {k : Int → St → Prop} (hw : Wd G ((injC SB) S) H) (hS : va_S (AG G) s.heap H locs) {xv1 : Int32} {x1 : Int} (xt1 : xv1.toInt = x1) {xv2 : Int32} {x2 : Int} (xt2 : xv2.toInt = x2) {xv3 : Int32} {x3 : Int} (xt3 : xv3.toInt = x3) {xv4 : Int32} {x4 : Int} (xt4 : xv4.toInt = x4) {xv5 : Int32} {x5 : Int} (xt5 : xv5.toInt = x5) (hl : lv_has ls 6 [(0, .ref (G.2.2 0)), (1, .int xv1), (2, .int xv2), (3, .int xv3), (4, .int xv4), (5, .int xv5)])  (h : wX7_feed_0 S x1 x2 x3 x4 x5 k) : W p l e (rmF 1 22) s m args below meth c H locs 0 0 (MQ below (QcI G (injC SB) k) args s 0 0 (AG G)) (F0 m 0 ls []) := by
  refine lv_aload_n C.1.1 C.1.2.1 dX7_feed_0 rfl (lv_at hl 0 rfl) ?_
  refine y_getI C fl_X7_48 hw (ock_7 SB) rfl dX7_feed_1 (fun v1 t1 => ?_)
  refine y_bipush C dX7_feed_4 ⟨by decide, by decide⟩ (fun v2 t2 => ?_)
  refine y_iadd C t1 t2 dX7_feed_6 (fun v3 t3 => ?_)
  refine y_sipush C dX7_feed_7 ⟨by decide, by decide⟩ (fun v4 t4 => ?_)
  refine y_icmp_le C t3 t4 dX7_feed_10 (tgt := 16) (by decide) (fun c5 => ?_) (fun c5 => ?_)
  · have h := h.1 c5
    refine lv_aload_n C.1.1 C.1.2.1 dX7_feed_16 rfl (lv_at hl 0 rfl) ?_
    refine lv_iload_n C.1.1 C.1.2.1 dX7_feed_17 rfl (lv_at hl 1 rfl) ?_
    refine y_cVV C (As := [.int xv1]) (rest := []) ml_X7_52 (kX7_put l G SB S xt1 h) (ock_7 SB) (T := TX7) (N := 9) rfl (by decide) ⟨(Nat.le_of_ble_eq_true rfl), (Nat.le_of_ble_eq_true rfl)⟩ hl.1 rfl rfl (Nat.le_of_ble_eq_true rfl) hw hS dX7_feed_18 (fun S_6 H locs h hw hS => ?_)
    refine lv_aload_n C.1.1 C.1.2.1 dX7_feed_21 rfl (lv_at hl 0 rfl) ?_
    refine lv_iload_n C.1.1 C.1.2.1 dX7_feed_22 rfl (lv_at hl 2 rfl) ?_
    refine y_cVV C (As := [.int xv2]) (rest := []) ml_X7_52 (kX7_put l G SB S_6 xt2 h) (ock_7 SB) (T := TX7) (N := 9) rfl (by decide) ⟨(Nat.le_of_ble_eq_true rfl), (Nat.le_of_ble_eq_true rfl)⟩ hl.1 rfl rfl (Nat.le_of_ble_eq_true rfl) hw hS dX7_feed_23 (fun S_7 H locs h hw hS => ?_)
    refine lv_aload_n C.1.1 C.1.2.1 dX7_feed_26 rfl (lv_at hl 0 rfl) ?_
    refine lv_iload_n C.1.1 C.1.2.1 dX7_feed_27 rfl (lv_at hl 3 rfl) ?_
    refine y_cVV C (As := [.int xv3]) (rest := []) ml_X7_52 (kX7_put l G SB S_7 xt3 h) (ock_7 SB) (T := TX7) (N := 9) rfl (by decide) ⟨(Nat.le_of_ble_eq_true rfl), (Nat.le_of_ble_eq_true rfl)⟩ hl.1 rfl rfl (Nat.le_of_ble_eq_true rfl) hw hS dX7_feed_28 (fun S_8 H locs h hw hS => ?_)
    refine lv_aload_n C.1.1 C.1.2.1 dX7_feed_31 rfl (lv_at hl 0 rfl) ?_
    refine lv_iload C.1.1 C.1.2.1 dX7_feed_32 (lv_at hl 4 rfl) ?_
    refine y_cVV C (As := [.int xv4]) (rest := []) ml_X7_52 (kX7_put l G SB S_8 xt4 h) (ock_7 SB) (T := TX7) (N := 9) rfl (by decide) ⟨(Nat.le_of_ble_eq_true rfl), (Nat.le_of_ble_eq_true rfl)⟩ hl.1 rfl rfl (Nat.le_of_ble_eq_true rfl) hw hS dX7_feed_34 (fun S_9 H locs h hw hS => ?_)
    refine lv_aload_n C.1.1 C.1.2.1 dX7_feed_37 rfl (lv_at hl 0 rfl) ?_
    refine lv_iload C.1.1 C.1.2.1 dX7_feed_38 (lv_at hl 5 rfl) ?_
    refine y_cVV C (As := [.int xv5]) (rest := []) ml_X7_52 (kX7_put l G SB S_9 xt5 h) (ock_7 SB) (T := TX7) (N := 9) rfl (by decide) ⟨(Nat.le_of_ble_eq_true rfl), (Nat.le_of_ble_eq_true rfl)⟩ hl.1 rfl rfl (Nat.le_of_ble_eq_true rfl) hw hS dX7_feed_40 (fun S_10 H locs h hw hS => ?_)
    refine lv_aload_n C.1.1 C.1.2.1 dX7_feed_43 rfl (lv_at hl 0 rfl) ?_
    refine y_getI C fl_X7_48 hw (ock_7 SB) rfl dX7_feed_44 (fun v11 t11 => ?_)
    exact y_iret C hw hS t11 h dX7_feed_47
  · have h := h.2 c5
    refine y_bipush C dX7_feed_13 ⟨by decide, by decide⟩ (fun v12 t12 => ?_)
    exact y_iret C hw hS t12 h dX7_feed_15
theorem kX7_feed (l : Launch) (G : GG) (SB S : St) {xv1 : Int32} {x1 : Int} (xt1 : xv1.toInt = x1) {xv2 : Int32} {x2 : Int} (xt2 : xv2.toInt = x2) {xv3 : Int32} {x3 : Int} (xt3 : xv3.toInt = x3) {xv4 : Int32} {x4 : Int} (xt4 : xv4.toInt = x4) {xv5 : Int32} {x5 : Int} (xt5 : xv5.toInt = x5) {k : Int → St → Prop} (h : wX7_feed S x1 x2 x3 x4 x5 k) : CnI l yX7_feed cX7_feed 6 (some .int) 1 22 G (injC SB) [.ref (G.2.2 0), .int xv1, .int xv2, .int xv3, .int xv4, .int xv5] S k :=
  cn_body (by decide +kernel) (Nat.le_of_ble_eq_true rfl) (fun p e s m args below meth c ls C hw hl => uX7_feed_0 C hw va_S.rf xt1 xt2 xt3 xt4 xt5 (lv_sub hl [0, 1, 2, 3, 4, 5] rfl) h)
set_option maxHeartbeats 4000000 in
set_option maxRecDepth 10000 in
theorem uX7_trim_0 {p : Program} {l : Launch} {e : Env} {s : State} {m : MethodId} {args : Array Value} {below : List Frame} {meth : Method} {c : Code} {G : GG} {SB : St} (C : Cx p s m args meth c G RX7 cX7_trim 2 (some .int)) {S : St} {H : Heap} {locs : List Loc} {ls : Array Slot}  {k : Int → St → Prop} (hw : Wd G ((injC SB) S) H) (hS : va_S (AG G) s.heap H locs) {xv1 : Int32} {x1 : Int} (xt1 : xv1.toInt = x1) (hl : lv_has ls 2 [(0, .ref (G.2.2 0)), (1, .int xv1)])  (h : wX7_trim_0 S x1 k) : W p l e (rmF 0 0) s m args below meth c H locs 0 0 (MQ below (QcI G (injC SB) k) args s 0 0 (AG G)) (F0 m 0 ls []) := by
  refine lv_iload_n C.1.1 C.1.2.1 dX7_trim_0 rfl (lv_at hl 1 rfl) ?_
  refine y_if_lt C xt1 dX7_trim_1 (tgt := 12) (by decide) (fun c1 => ?_) (fun c1 => ?_)
  · have h := h.1 c1
    refine y_bipush C dX7_trim_12 ⟨by decide, by decide⟩ (fun v2 t2 => ?_)
    exact y_iret C hw hS t2 h dX7_trim_14
  · have h := h.2 c1
    refine lv_iload_n C.1.1 C.1.2.1 dX7_trim_4 rfl (lv_at hl 1 rfl) ?_
    refine lv_aload_n C.1.1 C.1.2.1 dX7_trim_5 rfl (lv_at hl 0 rfl) ?_
    refine y_getI C fl_X7_48 hw (ock_7 SB) rfl dX7_trim_6 (fun v3 t3 => ?_)
    refine y_icmp_le C xt1 t3 dX7_trim_9 (tgt := 15) (by decide) (fun c4 => ?_) (fun c4 => ?_)
    · have h := h.1 c4
      refine lv_aload_n C.1.1 C.1.2.1 dX7_trim_15 rfl (lv_at hl 0 rfl) ?_
      refine lv_iload_n C.1.1 C.1.2.1 dX7_trim_16 rfl (lv_at hl 1 rfl) ?_
      obtain ⟨S_5, e5⟩ : ∃ z : St, z = up S 0 1 x1 := ⟨_, rfl⟩
      have h := h S_5 e5
      refine y_putI C fl_X7_48 fp_7_1 hw hS (ock_7 SB) rfl xt1 dX7_trim_17 (fun H locs hw hS => ?_)
      have hw : Wd G ((injC SB) S_5) H := by rw [e5]; exact hw
      refine lv_iload_n C.1.1 C.1.2.1 dX7_trim_20 rfl (lv_at hl 1 rfl) ?_
      exact y_iret C hw hS xt1 h dX7_trim_21
    · have h := h.2 c4
      refine y_bipush C dX7_trim_12 ⟨by decide, by decide⟩ (fun v6 t6 => ?_)
      exact y_iret C hw hS t6 h dX7_trim_14
theorem kX7_trim (l : Launch) (G : GG) (SB S : St) {xv1 : Int32} {x1 : Int} (xt1 : xv1.toInt = x1) {k : Int → St → Prop} (h : wX7_trim S x1 k) : CnI l yX7_trim cX7_trim 2 (some .int) 0 0 G (injC SB) [.ref (G.2.2 0), .int xv1] S k :=
  cn_body (by decide +kernel) (Nat.le_of_ble_eq_true rfl) (fun p e s m args below meth c ls C hw hl => uX7_trim_0 C hw va_S.rf xt1 (lv_sub hl [0, 1] rfl) h)
set_option maxHeartbeats 4000000 in
set_option maxRecDepth 10000 in
theorem uX7_compile_0 {p : Program} {l : Launch} {e : Env} {s : State} {m : MethodId} {args : Array Value} {below : List Frame} {meth : Method} {c : Code} {G : GG} {SB : St} (C : Cx p s m args meth c G RX7 cX7_compile 3 (some .int)) {S : St} {H : Heap} {locs : List Loc} {ls : Array Slot}  {k : Int → St → Prop} (hw : Wd G ((injC SB) S) H) (hS : va_S (AG G) s.heap H locs)  (hl : lv_has ls 3 [(0, .ref (G.2.2 0))])  (h : wX7_compile_0 S k) : W p l e (rmF 7 161) s m args below meth c H locs 0 0 (MQ below (QcI G (injC SB) k) args s 0 0 (AG G)) (F0 m 0 ls []) := by
  refine lv_aload_n C.1.1 C.1.2.1 dX7_compile_0 rfl (lv_at hl 0 rfl) ?_
  refine y_getS C fl_X7_26 hw (ock_7 SB) rfl (o := 1028) rfl dX7_compile_1 ?_
  refine lv_aload_n C.1.1 C.1.2.1 dX7_compile_4 rfl (lv_at hl 0 rfl) ?_
  refine y_getA C fl_X7_9 hw (ock_7 SB) rfl (o := 1) rfl dX7_compile_5 ?_
  refine lv_aload_n C.1.1 C.1.2.1 dX7_compile_8 rfl (lv_at hl 0 rfl) ?_
  refine y_getI C fl_X7_48 hw (ock_7 SB) rfl dX7_compile_9 (fun v3 t3 => ?_)
  refine y_cVV C (As := [.ref (G.2.2 (1)), .int v3]) (rest := []) ml_X7_56 (kX5_scan l G SB S t3 h) (ock_5 SB) (T := TX5) (N := 5) rfl (by decide) ⟨(Nat.le_of_ble_eq_true rfl), (Nat.le_of_ble_eq_true rfl)⟩ hl.1 rfl rfl (Nat.le_of_ble_eq_true rfl) hw hS dX7_compile_12 (fun S_4 H locs h hw hS => ?_)
  refine lv_aload_n C.1.1 C.1.2.1 dX7_compile_15 rfl (lv_at hl 0 rfl) ?_
  refine y_iconst C dX7_compile_16 ⟨by decide, by decide⟩ (fun v5 t5 => ?_)
  obtain ⟨S_6, e6⟩ : ∃ z : St, z = up S_4 0 1 0 := ⟨_, rfl⟩
  have h := h S_6 e6
  refine y_putI C fl_X7_48 fp_7_1 hw hS (ock_7 SB) rfl t5 dX7_compile_17 (fun H locs hw hS => ?_)
  have hw : Wd G ((injC SB) S_6) H := by rw [e6]; exact hw
  refine lv_aload_n C.1.1 C.1.2.1 dX7_compile_20 rfl (lv_at hl 0 rfl) ?_
  refine y_getS C fl_X7_35 hw (ock_7 SB) rfl (o := 1032) rfl dX7_compile_21 ?_
  refine lv_aload_n C.1.1 C.1.2.1 dX7_compile_24 rfl (lv_at hl 0 rfl) ?_
  obtain ⟨x_8, e8⟩ : ∃ z : Int, z = S_6 0 5 := ⟨_, rfl⟩
  obtain ⟨o8, h⟩ := h x_8 e8
  refine y_getO C fl_X7_20 hw (ock_7 SB) rfl e8 o8 dX7_compile_25 ?_
  refine y_cVI C (As := [.ref (G.2.2 (x_8).toNat)]) (rest := []) ml_X7_60 (kX4_read l G SB S_6 o8 h) (ock_4 SB) (T := TX4) (N := 15) rfl (by decide) ⟨(Nat.le_of_ble_eq_true rfl), (Nat.le_of_ble_eq_true rfl)⟩ hl.1 rfl rfl (Nat.le_of_ble_eq_true rfl) hw hS dX7_compile_28 (fun v9 x_9 S_9 H locs t9 h hw hS => ?_)
  refine lv_istore_n (lv' := [(1, .int v9), (0, .ref (G.2.2 0))]) C.1.1 C.1.2.1 dX7_compile_31 rfl hl (by decide) rfl (fun ls hl => ?_)
  refine lv_aload_n C.1.1 C.1.2.1 dX7_compile_32 rfl (lv_at hl 1 rfl) ?_
  refine lv_aload_n C.1.1 C.1.2.1 dX7_compile_33 rfl (lv_at hl 1 rfl) ?_
  refine y_getS C fl_X7_35 hw (ock_7 SB) rfl (o := 1032) rfl dX7_compile_34 ?_
  refine y_getI C fl_X7_64 hw (ock_4 SB) rfl dX7_compile_37 (fun v11 t11 => ?_)
  obtain ⟨S_12, e12⟩ : ∃ z : St, z = up S_9 0 2 (S_9 1032 7) := ⟨_, rfl⟩
  have h := h S_12 e12
  refine y_putI C fl_X7_67 fp_7_2 hw hS (ock_7 SB) rfl t11 dX7_compile_40 (fun H locs hw hS => ?_)
  have hw : Wd G ((injC SB) S_12) H := by rw [e12]; exact hw
  refine lv_iload_n C.1.1 C.1.2.1 dX7_compile_43 rfl (lv_at hl 0 rfl) ?_
  refine y_if_ne C t9 dX7_compile_44 (tgt := 58) (by decide) (fun c13 => ?_) (fun c13 => ?_)
  · have h := h.1 c13
    refine lv_aload_n C.1.1 C.1.2.1 dX7_compile_58 rfl (lv_at hl 1 rfl) ?_
    obtain ⟨x_14, e14⟩ : ∃ z : Int, z = S_12 0 4 := ⟨_, rfl⟩
    obtain ⟨o14, h⟩ := h x_14 e14
    refine y_getO C fl_X7_16 hw (ock_7 SB) rfl e14 o14 dX7_compile_59 ?_
    refine lv_astore_n (lv' := [(2, .ref (G.2.2 (x_14).toNat)), (1, .int v9), (0, .ref (G.2.2 0))]) C.1.1 C.1.2.1 dX7_compile_62 rfl hl (by decide) rfl (fun ls hl => ?_)
    refine lv_aload_n C.1.1 C.1.2.1 dX7_compile_63 rfl (lv_at hl 2 rfl) ?_
    refine lv_aload_n C.1.1 C.1.2.1 dX7_compile_64 rfl (lv_at hl 2 rfl) ?_
    obtain ⟨x_15, e15⟩ : ∃ z : Int, z = S_12 0 5 := ⟨_, rfl⟩
    obtain ⟨o15, h⟩ := h x_15 e15
    refine y_getO C fl_X7_20 hw (ock_7 SB) rfl e15 o15 dX7_compile_65 ?_
    obtain ⟨S_16, e16⟩ : ∃ z : St, z = up S_12 0 4 x_15 := ⟨_, rfl⟩
    have h := h S_16 e16
    refine y_putR C fl_X7_16 fp_7_4 hw hS (ock_7 SB) rfl o15.1 dX7_compile_68 (fun H locs hw hS => ?_)
    have hw : Wd G ((injC SB) S_16) H := by rw [e16]; exact hw
    refine lv_aload_n C.1.1 C.1.2.1 dX7_compile_71 rfl (lv_at hl 2 rfl) ?_
    refine lv_aload_n C.1.1 C.1.2.1 dX7_compile_72 rfl (lv_at hl 0 rfl) ?_
    obtain ⟨S_17, e17⟩ : ∃ z : St, z = up S_16 0 5 x_14 := ⟨_, rfl⟩
    have h := h S_17 e17
    refine y_putR C fl_X7_20 fp_7_5 hw hS (ock_7 SB) rfl o14.1 dX7_compile_73 (fun H locs hw hS => ?_)
    have hw : Wd G ((injC SB) S_17) H := by rw [e17]; exact hw
    refine lv_aload_n C.1.1 C.1.2.1 dX7_compile_76 rfl (lv_at hl 2 rfl) ?_
    obtain ⟨x_18, e18⟩ : ∃ z : Int, z = S_17 0 4 := ⟨_, rfl⟩
    obtain ⟨o18, h⟩ := h x_18 e18
    refine y_getO C fl_X7_16 hw (ock_7 SB) rfl e18 o18 dX7_compile_77 ?_
    refine y_getI C fl_X7_73 hw (oc_of SB o18) rfl dX7_compile_80 (fun v19 t19 => ?_)
    exact y_iret C hw hS t19 h dX7_compile_83
  · have h := h.2 c13
    refine y_bipush C dX7_compile_47 ⟨by decide, by decide⟩ (fun v20 t20 => ?_)
    refine lv_aload_n C.1.1 C.1.2.1 dX7_compile_49 rfl (lv_at hl 1 rfl) ?_
    refine y_getS C fl_X7_35 hw (ock_7 SB) rfl (o := 1032) rfl dX7_compile_50 ?_
    refine y_getI C fl_X7_70 hw (ock_4 SB) rfl dX7_compile_53 (fun v22 t22 => ?_)
    refine y_isub C t20 t22 dX7_compile_56 (fun v23 t23 => ?_)
    exact y_iret C hw hS t23 h dX7_compile_57
theorem kX7_compile (l : Launch) (G : GG) (SB S : St)  {k : Int → St → Prop} (h : wX7_compile S k) : CnI l yX7_compile cX7_compile 3 (some .int) 7 161 G (injC SB) [.ref (G.2.2 0)] S k :=
  cn_body (by decide +kernel) (Nat.le_of_ble_eq_true rfl) (fun p e s m args below meth c ls C hw hl => uX7_compile_0 C hw va_S.rf  (lv_sub hl [0] rfl) h)
set_option maxHeartbeats 4000000 in
set_option maxRecDepth 10000 in
theorem uX7_fault_0 {p : Program} {l : Launch} {e : Env} {s : State} {m : MethodId} {args : Array Value} {below : List Frame} {meth : Method} {c : Code} {G : GG} {SB : St} (C : Cx p s m args meth c G RX7 cX7_fault 1 (some .int)) {S : St} {H : Heap} {locs : List Loc} {ls : Array Slot}  {k : Int → Prop} (hw : Wd G ((injC SB) S) H) (hS : va_S (AG G) s.heap H locs)  (hl : lv_has ls 1 [(0, .ref (G.2.2 0))])  (h : wX7_fault_0 S k) : W p l e (rmF 0 0) s m args below meth c H locs 0 0 (MQ below (QcI G (injC SB) (fun r u => k r ∧ u = S)) args s 0 0 (AG G)) (F0 m 0 ls []) := by
  refine lv_aload_n C.1.1 C.1.2.1 dX7_fault_0 rfl (lv_at hl 0 rfl) ?_
  refine y_getI C fl_X7_67 hw (ock_7 SB) rfl dX7_fault_1 (fun v1 t1 => ?_)
  exact y_iret C hw hS t1 ⟨h, rfl⟩ dX7_fault_4
theorem kX7_fault (l : Launch) (G : GG) (SB S : St)  {k : Int → Prop} (h : wX7_fault S k) : CnI l yX7_fault cX7_fault 1 (some .int) 0 0 G (injC SB) [.ref (G.2.2 0)] S (fun r u => k r ∧ u = S) :=
  cn_body (by decide +kernel) (Nat.le_of_ble_eq_true rfl) (fun p e s m args below meth c ls C hw hl => uX7_fault_0 C hw va_S.rf  (lv_sub hl [0] rfl) h)
set_option maxHeartbeats 4000000 in
set_option maxRecDepth 10000 in
theorem uX7_isType_0 {p : Program} {l : Launch} {e : Env} {s : State} {m : MethodId} {args : Array Value} {below : List Frame} {meth : Method} {c : Code} {G : GG} {SB : St} (C : Cx p s m args meth c G RX7 cX7_isType 2 (some .boolean)) {S : St} {H : Heap} {locs : List Loc} {ls : Array Slot}  {k : Int → Prop} (hw : Wd G ((injC SB) S) H) (hS : va_S (AG G) s.heap H locs) {xv1 : Int32} {x1 : Int} (xt1 : xv1.toInt = x1) (hl : lv_has ls 2 [(0, .ref (G.2.2 0)), (1, .int xv1)])  (h : wX7_isType_0 S x1 k) : W p l e (rmF 0 0) s m args below meth c H locs 0 0 (MQ below (QcI G (injC SB) (fun r u => k r ∧ u = S)) args s 0 0 (AG G)) (F0 m 0 ls []) := by
  refine lv_iload_n C.1.1 C.1.2.1 dX7_isType_0 rfl (lv_at hl 1 rfl) ?_
  refine y_if_lt C xt1 dX7_isType_1 (tgt := 19) (by decide) (fun c1 => ?_) (fun c1 => ?_)
  · have h := h.1 c1
    refine y_iconst C dX7_isType_19 ⟨by decide, by decide⟩ (fun v2 t2 => ?_)
    exact y_zret C hw hS t2 (Or.inl rfl) ⟨h, rfl⟩ dX7_isType_20
  · have h := h.2 c1
    refine lv_iload_n C.1.1 C.1.2.1 dX7_isType_4 rfl (lv_at hl 1 rfl) ?_
    refine lv_aload_n C.1.1 C.1.2.1 dX7_isType_5 rfl (lv_at hl 0 rfl) ?_
    obtain ⟨x_3, e3⟩ : ∃ z : Int, z = S 0 4 := ⟨_, rfl⟩
    obtain ⟨o3, h⟩ := h x_3 e3
    refine y_getO C fl_X7_16 hw (ock_7 SB) rfl e3 o3 dX7_isType_6 ?_
    refine y_getI C fl_X7_73 hw (oc_of SB o3) rfl dX7_isType_9 (fun v4 t4 => ?_)
    refine y_icmp_ge C xt1 t4 dX7_isType_12 (tgt := 19) (by decide) (fun c5 => ?_) (fun c5 => ?_)
    · have h := h.1 c5
      refine y_iconst C dX7_isType_19 ⟨by decide, by decide⟩ (fun v6 t6 => ?_)
      exact y_zret C hw hS t6 (Or.inl rfl) ⟨h, rfl⟩ dX7_isType_20
    · have h := h.2 c5
      refine y_iconst C dX7_isType_15 ⟨by decide, by decide⟩ (fun v7 t7 => ?_)
      refine lv_goto (tgt := 20) C.1.1 C.1.2.1 dX7_isType_16 (by decide) ?_
      exact y_zret C hw hS t7 (Or.inr rfl) ⟨h, rfl⟩ dX7_isType_20
theorem kX7_isType (l : Launch) (G : GG) (SB S : St) {xv1 : Int32} {x1 : Int} (xt1 : xv1.toInt = x1) {k : Int → Prop} (h : wX7_isType S x1 k) : CnI l yX7_isType cX7_isType 2 (some .boolean) 0 0 G (injC SB) [.ref (G.2.2 0), .int xv1] S (fun r u => k r ∧ u = S) :=
  cn_body (by decide +kernel) (Nat.le_of_ble_eq_true rfl) (fun p e s m args below meth c ls C hw hl => uX7_isType_0 C hw va_S.rf xt1 (lv_sub hl [0, 1] rfl) h)
set_option maxHeartbeats 4000000 in
set_option maxRecDepth 10000 in
theorem uX7_type_0 {p : Program} {l : Launch} {e : Env} {s : State} {m : MethodId} {args : Array Value} {below : List Frame} {meth : Method} {c : Code} {G : GG} {SB : St} (C : Cx p s m args meth c G RX7 cX7_type 4 (some .int)) {S : St} {H : Heap} {locs : List Loc} {ls : Array Slot}  {k : Int → Prop} (hw : Wd G ((injC SB) S) H) (hS : va_S (AG G) s.heap H locs) {xv1 : Int32} {x1 : Int} (xt1 : xv1.toInt = x1) {xv2 : Int32} {x2 : Int} (xt2 : xv2.toInt = x2) (hl : lv_has ls 4 [(0, .ref (G.2.2 0)), (1, .int xv1), (2, .int xv2)])  (h : wX7_type_0 S x1 x2 k) : W p l e (rmF 1 21) s m args below meth c H locs 0 0 (MQ below (QcI G (injC SB) (fun r u => k r ∧ u = S)) args s 0 0 (AG G)) (F0 m 0 ls []) := by
  refine lv_aload_n C.1.1 C.1.2.1 dX7_type_0 rfl (lv_at hl 0 rfl) ?_
  refine lv_iload_n C.1.1 C.1.2.1 dX7_type_1 rfl (lv_at hl 1 rfl) ?_
  refine y_cVIp C (As := [.int xv1]) (rest := []) ml_X7_76 (kX7_isType l G SB S xt1 h) (ock_7 SB) (T := TX7) (N := 9) rfl (by decide) ⟨(Nat.le_of_ble_eq_true rfl), (Nat.le_of_ble_eq_true rfl)⟩ hl.1 rfl rfl (Nat.le_of_ble_eq_true rfl) hw hS dX7_type_2 (fun v1 x_1 H locs t1 h hw hS => ?_)
  refine y_if_ne C t1 dX7_type_5 (tgt := 11) (by decide) (fun c2 => ?_) (fun c2 => ?_)
  · have h := h.1 c2
    refine lv_aload_n C.1.1 C.1.2.1 dX7_type_11 rfl (lv_at hl 0 rfl) ?_
    obtain ⟨x_3, e3⟩ : ∃ z : Int, z = S 0 4 := ⟨_, rfl⟩
    obtain ⟨o3, h⟩ := h x_3 e3
    refine y_getO C fl_X7_16 hw (ock_7 SB) rfl e3 o3 dX7_type_12 ?_
    refine y_getA C fl_X7_80 hw (oc_of SB o3) rfl (o := 1) rfl dX7_type_15 ?_
    refine lv_iload_n C.1.1 C.1.2.1 dX7_type_18 rfl (lv_at hl 1 rfl) ?_
    obtain ⟨b5, h⟩ := h
    obtain ⟨x_5, e5⟩ : ∃ z : Int, z = x_3 + 6 + 6 * x1 := ⟨_, rfl⟩
    have h := h x_5 e5
    have o5 : isO 6 x_5 := isO_ty o3 b5 e5
    refine y_tyO C hw o3 xt1 b5 e5 dX7_type_19 ?_
    refine lv_astore_n (lv' := [(3, .ref (G.2.2 (x_5).toNat)), (0, .ref (G.2.2 0)), (1, .int xv1), (2, .int xv2)]) C.1.1 C.1.2.1 dX7_type_20 rfl hl (by decide) rfl (fun ls hl => ?_)
    refine lv_iload_n C.1.1 C.1.2.1 dX7_type_21 rfl (lv_at hl 3 rfl) ?_
    by_cases c6_0 : x2 = 0
    · have h := h.1 c6_0
      refine y_tabIn C xt2 c6_0 dX7_type_22 (by decide) (by decide) (off := 54) (by decide +kernel) (tgt := 76) (by decide) ?_
      refine lv_aload_n C.1.1 C.1.2.1 dX7_type_76 rfl (lv_at hl 0 rfl) ?_
      refine y_getI C fl_X7_84 hw (oc_of SB o5) rfl dX7_type_77 (fun v7 t7 => ?_)
      exact y_iret C hw hS t7 ⟨h, rfl⟩ dX7_type_80
    have h := h.2
    by_cases c6_1 : x2 = 1
    · have h := h.1 c6_1
      refine y_tabIn C xt2 c6_1 dX7_type_22 (by decide) (by decide) (off := 59) (by decide +kernel) (tgt := 81) (by decide) ?_
      refine lv_aload_n C.1.1 C.1.2.1 dX7_type_81 rfl (lv_at hl 0 rfl) ?_
      refine y_getI C fl_X7_89 hw (oc_of SB o5) rfl dX7_type_82 (fun v8 t8 => ?_)
      exact y_iret C hw hS t8 ⟨h, rfl⟩ dX7_type_85
    have h := h.2
    by_cases c6_2 : x2 = 2
    · have h := h.1 c6_2
      refine y_tabIn C xt2 c6_2 dX7_type_22 (by decide) (by decide) (off := 64) (by decide +kernel) (tgt := 86) (by decide) ?_
      refine lv_aload_n C.1.1 C.1.2.1 dX7_type_86 rfl (lv_at hl 0 rfl) ?_
      refine y_getI C fl_X7_92 hw (oc_of SB o5) rfl dX7_type_87 (fun v9 t9 => ?_)
      exact y_iret C hw hS t9 ⟨h, rfl⟩ dX7_type_90
    have h := h.2
    by_cases c6_3 : x2 = 3
    · have h := h.1 c6_3
      refine y_tabIn C xt2 c6_3 dX7_type_22 (by decide) (by decide) (off := 69) (by decide +kernel) (tgt := 91) (by decide) ?_
      refine lv_aload_n C.1.1 C.1.2.1 dX7_type_91 rfl (lv_at hl 0 rfl) ?_
      refine y_getI C fl_X7_95 hw (oc_of SB o5) rfl dX7_type_92 (fun v10 t10 => ?_)
      refine y_iconst C dX7_type_95 ⟨by decide, by decide⟩ (fun v11 t11 => ?_)
      refine y_icmp_ne C t10 t11 dX7_type_96 (tgt := 104) (by decide) (fun c12 => ?_) (fun c12 => ?_)
      · have h := h.1 c12
        refine lv_aload_n C.1.1 C.1.2.1 dX7_type_104 rfl (lv_at hl 0 rfl) ?_
        refine y_getI C fl_X7_95 hw (oc_of SB o5) rfl dX7_type_105 (fun v13 t13 => ?_)
        exact y_iret C hw hS t13 ⟨h, rfl⟩ dX7_type_108
      · have h := h.2 c12
        refine y_bipush C dX7_type_99 ⟨by decide, by decide⟩ (fun v14 t14 => ?_)
        refine lv_goto (tgt := 108) C.1.1 C.1.2.1 dX7_type_101 (by decide) ?_
        exact y_iret C hw hS t14 ⟨h, rfl⟩ dX7_type_108
    have h := h.2
    by_cases c6_4 : x2 = 4
    · have h := h.1 c6_4
      refine y_tabIn C xt2 c6_4 dX7_type_22 (by decide) (by decide) (off := 87) (by decide +kernel) (tgt := 109) (by decide) ?_
      refine lv_aload_n C.1.1 C.1.2.1 dX7_type_109 rfl (lv_at hl 0 rfl) ?_
      refine y_getI C fl_X7_98 hw (oc_of SB o5) rfl dX7_type_110 (fun v15 t15 => ?_)
      exact y_iret C hw hS t15 ⟨h, rfl⟩ dX7_type_113
    have h := h.2
    by_cases c6_5 : x2 = 5
    · have h := h.1 c6_5
      refine y_tabIn C xt2 c6_5 dX7_type_22 (by decide) (by decide) (off := 92) (by decide +kernel) (tgt := 114) (by decide) ?_
      refine lv_aload_n C.1.1 C.1.2.1 dX7_type_114 rfl (lv_at hl 0 rfl) ?_
      refine y_getI C fl_X7_101 hw (oc_of SB o5) rfl dX7_type_115 (fun v16 t16 => ?_)
      exact y_iret C hw hS t16 ⟨h, rfl⟩ dX7_type_118
    have h := h.2
    by_cases c6_6 : x2 = 6
    · have h := h.1 c6_6
      refine y_tabIn C xt2 c6_6 dX7_type_22 (by decide) (by decide) (off := 97) (by decide +kernel) (tgt := 119) (by decide) ?_
      refine lv_aload_n C.1.1 C.1.2.1 dX7_type_119 rfl (lv_at hl 0 rfl) ?_
      refine y_getI C fl_X7_104 hw (oc_of SB o5) rfl dX7_type_120 (fun v17 t17 => ?_)
      exact y_iret C hw hS t17 ⟨h, rfl⟩ dX7_type_123
    have h := h.2
    by_cases c6_7 : x2 = 7
    · have h := h.1 c6_7
      refine y_tabIn C xt2 c6_7 dX7_type_22 (by decide) (by decide) (off := 102) (by decide +kernel) (tgt := 124) (by decide) ?_
      refine lv_aload_n C.1.1 C.1.2.1 dX7_type_124 rfl (lv_at hl 0 rfl) ?_
      refine y_getI C fl_X7_107 hw (oc_of SB o5) rfl dX7_type_125 (fun v18 t18 => ?_)
      exact y_iret C hw hS t18 ⟨h, rfl⟩ dX7_type_128
    have h := h.2
    by_cases c6_8 : x2 = 8
    · have h := h.1 c6_8
      refine y_tabIn C xt2 c6_8 dX7_type_22 (by decide) (by decide) (off := 107) (by decide +kernel) (tgt := 129) (by decide) ?_
      refine lv_aload_n C.1.1 C.1.2.1 dX7_type_129 rfl (lv_at hl 0 rfl) ?_
      refine y_getI C fl_X7_110 hw (oc_of SB o5) rfl dX7_type_130 (fun v19 t19 => ?_)
      exact y_iret C hw hS t19 ⟨h, rfl⟩ dX7_type_133
    have h := h.2
    by_cases c6_9 : x2 = 9
    · have h := h.1 c6_9
      refine y_tabIn C xt2 c6_9 dX7_type_22 (by decide) (by decide) (off := 112) (by decide +kernel) (tgt := 134) (by decide) ?_
      refine lv_aload_n C.1.1 C.1.2.1 dX7_type_134 rfl (lv_at hl 0 rfl) ?_
      refine y_getI C fl_X7_101 hw (oc_of SB o5) rfl dX7_type_135 (fun v20 t20 => ?_)
      refine y_if_ne C t20 dX7_type_138 (tgt := 146) (by decide) (fun c21 => ?_) (fun c21 => ?_)
      · have h := h.1 c21
        refine lv_aload_n C.1.1 C.1.2.1 dX7_type_146 rfl (lv_at hl 0 rfl) ?_
        refine y_getI C fl_X7_113 hw (oc_of SB o5) rfl dX7_type_147 (fun v22 t22 => ?_)
        exact y_iret C hw hS t22 ⟨h, rfl⟩ dX7_type_150
      · have h := h.2 c21
        refine y_bipush C dX7_type_141 ⟨by decide, by decide⟩ (fun v23 t23 => ?_)
        refine lv_goto (tgt := 150) C.1.1 C.1.2.1 dX7_type_143 (by decide) ?_
        exact y_iret C hw hS t23 ⟨h, rfl⟩ dX7_type_150
    have h := h.2
    have c6 := sw_0_9 c6_0 c6_1 c6_2 c6_3 c6_4 c6_5 c6_6 c6_7 c6_8 c6_9
    have h := h c6
    refine y_tabOut C xt2 c6 dX7_type_22 (tgt := 151) (by decide) ?_
    refine y_bipush C dX7_type_151 ⟨by decide, by decide⟩ (fun v24 t24 => ?_)
    exact y_iret C hw hS t24 ⟨h, rfl⟩ dX7_type_153
  · have h := h.2 c2
    refine y_bipush C dX7_type_8 ⟨by decide, by decide⟩ (fun v25 t25 => ?_)
    exact y_iret C hw hS t25 ⟨h, rfl⟩ dX7_type_10
theorem kX7_type (l : Launch) (G : GG) (SB S : St) {xv1 : Int32} {x1 : Int} (xt1 : xv1.toInt = x1) {xv2 : Int32} {x2 : Int} (xt2 : xv2.toInt = x2) {k : Int → Prop} (h : wX7_type S x1 x2 k) : CnI l yX7_type cX7_type 4 (some .int) 1 21 G (injC SB) [.ref (G.2.2 0), .int xv1, .int xv2] S (fun r u => k r ∧ u = S) :=
  cn_body (by decide +kernel) (Nat.le_of_ble_eq_true rfl) (fun p e s m args below meth c ls C hw hl => uX7_type_0 C hw va_S.rf xt1 xt2 (lv_sub hl [0, 1, 2] rfl) h)
set_option maxHeartbeats 4000000 in
set_option maxRecDepth 10000 in
theorem uX7_above_0 {p : Program} {l : Launch} {e : Env} {s : State} {m : MethodId} {args : Array Value} {below : List Frame} {meth : Method} {c : Code} {G : GG} {SB : St} (C : Cx p s m args meth c G RX7 cX7_above 4 (some .int)) {S : St} {H : Heap} {locs : List Loc} {ls : Array Slot}  {k : Int → Prop} (hw : Wd G ((injC SB) S) H) (hS : va_S (AG G) s.heap H locs) {xv1 : Int32} {x1 : Int} (xt1 : xv1.toInt = x1) {xv2 : Int32} {x2 : Int} (xt2 : xv2.toInt = x2) (hl : lv_has ls 4 [(0, .ref (G.2.2 0)), (1, .int xv1), (2, .int xv2)])  (h : wX7_above_0 S x1 x2 k) : W p l e (rmF 1 21) s m args below meth c H locs 0 0 (MQ below (QcI G (injC SB) (fun r u => k r ∧ u = S)) args s 0 0 (AG G)) (F0 m 0 ls []) := by
  refine lv_aload_n C.1.1 C.1.2.1 dX7_above_0 rfl (lv_at hl 0 rfl) ?_
  refine lv_iload_n C.1.1 C.1.2.1 dX7_above_1 rfl (lv_at hl 1 rfl) ?_
  refine y_cVIp C (As := [.int xv1]) (rest := []) ml_X7_76 (kX7_isType l G SB S xt1 h) (ock_7 SB) (T := TX7) (N := 9) rfl (by decide) ⟨(Nat.le_of_ble_eq_true rfl), (Nat.le_of_ble_eq_true rfl)⟩ hl.1 rfl rfl (Nat.le_of_ble_eq_true rfl) hw hS dX7_above_2 (fun v1 x_1 H locs t1 h hw hS => ?_)
  refine y_if_ne C t1 dX7_above_5 (tgt := 11) (by decide) (fun c2 => ?_) (fun c2 => ?_)
  · have h := h.1 c2
    refine lv_aload_n C.1.1 C.1.2.1 dX7_above_11 rfl (lv_at hl 0 rfl) ?_
    obtain ⟨x_3, e3⟩ : ∃ z : Int, z = S 0 4 := ⟨_, rfl⟩
    obtain ⟨o3, h⟩ := h x_3 e3
    refine y_getO C fl_X7_16 hw (ock_7 SB) rfl e3 o3 dX7_above_12 ?_
    refine y_getA C fl_X7_80 hw (oc_of SB o3) rfl (o := 1) rfl dX7_above_15 ?_
    refine lv_iload_n C.1.1 C.1.2.1 dX7_above_18 rfl (lv_at hl 1 rfl) ?_
    obtain ⟨b5, h⟩ := h
    obtain ⟨x_5, e5⟩ : ∃ z : Int, z = x_3 + 6 + 6 * x1 := ⟨_, rfl⟩
    have h := h x_5 e5
    have o5 : isO 6 x_5 := isO_ty o3 b5 e5
    refine y_tyO C hw o3 xt1 b5 e5 dX7_above_19 ?_
    refine lv_astore_n (lv' := [(3, .ref (G.2.2 (x_5).toNat)), (0, .ref (G.2.2 0)), (1, .int xv1), (2, .int xv2)]) C.1.1 C.1.2.1 dX7_above_20 rfl hl (by decide) rfl (fun ls hl => ?_)
    refine lv_iload_n C.1.1 C.1.2.1 dX7_above_21 rfl (lv_at hl 3 rfl) ?_
    refine y_if_lt C xt2 dX7_above_22 (tgt := 42) (by decide) (fun c6 => ?_) (fun c6 => ?_)
    · have h := h.1 c6
      refine y_bipush C dX7_above_42 ⟨by decide, by decide⟩ (fun v7 t7 => ?_)
      exact y_iret C hw hS t7 ⟨h, rfl⟩ dX7_above_44
    · have h := h.2 c6
      refine lv_iload_n C.1.1 C.1.2.1 dX7_above_25 rfl (lv_at hl 3 rfl) ?_
      refine lv_aload_n C.1.1 C.1.2.1 dX7_above_26 rfl (lv_at hl 0 rfl) ?_
      refine y_getI C fl_X7_110 hw (oc_of SB o5) rfl dX7_above_27 (fun v8 t8 => ?_)
      refine y_icmp_ge C xt2 t8 dX7_above_30 (tgt := 42) (by decide) (fun c9 => ?_) (fun c9 => ?_)
      · have h := h.1 c9
        refine y_bipush C dX7_above_42 ⟨by decide, by decide⟩ (fun v10 t10 => ?_)
        exact y_iret C hw hS t10 ⟨h, rfl⟩ dX7_above_44
      · have h := h.2 c9
        refine lv_aload_n C.1.1 C.1.2.1 dX7_above_33 rfl (lv_at hl 0 rfl) ?_
        refine y_getA C fl_X7_116 hw (oc_of SB o5) rfl (o := 4) rfl dX7_above_34 ?_
        refine lv_iload_n C.1.1 C.1.2.1 dX7_above_37 rfl (lv_at hl 3 rfl) ?_
        obtain ⟨b12, h⟩ := h
        refine y_iald C hw (ac_6_13 SB o5) xt2 b12 dX7_above_38 (fun v12 t12 => ?_)
        refine lv_goto (tgt := 44) C.1.1 C.1.2.1 dX7_above_39 (by decide) ?_
        exact y_iret C hw hS t12 ⟨h, rfl⟩ dX7_above_44
  · have h := h.2 c2
    refine y_bipush C dX7_above_8 ⟨by decide, by decide⟩ (fun v13 t13 => ?_)
    exact y_iret C hw hS t13 ⟨h, rfl⟩ dX7_above_10
theorem kX7_above (l : Launch) (G : GG) (SB S : St) {xv1 : Int32} {x1 : Int} (xt1 : xv1.toInt = x1) {xv2 : Int32} {x2 : Int} (xt2 : xv2.toInt = x2) {k : Int → Prop} (h : wX7_above S x1 x2 k) : CnI l yX7_above cX7_above 4 (some .int) 1 21 G (injC SB) [.ref (G.2.2 0), .int xv1, .int xv2] S (fun r u => k r ∧ u = S) :=
  cn_body (by decide +kernel) (Nat.le_of_ble_eq_true rfl) (fun p e s m args below meth c ls C hw hl => uX7_above_0 C hw va_S.rf xt1 xt2 (lv_sub hl [0, 1, 2] rfl) h)
set_option maxHeartbeats 4000000 in
set_option maxRecDepth 10000 in
theorem uX7_yes_0 {p : Program} {l : Launch} {e : Env} {s : State} {m : MethodId} {args : Array Value} {below : List Frame} {meth : Method} {c : Code} {G : GG} {SB : St} (C : Cx p s m args meth c G RX7 cX7_yes 1 (some .int)) {S : St} {H : Heap} {locs : List Loc} {ls : Array Slot}  {k : Int → Prop} (hw : Wd G ((injC SB) S) H) (hS : va_S (AG G) s.heap H locs) {xv0 : Int32} {x0 : Int} (xt0 : xv0.toInt = x0) (hl : lv_has ls 1 [(0, .int xv0)])  (h : wX7_yes_0 S x0 k) : W p l e (rmF 0 0) s m args below meth c H locs 0 0 (MQ below (QcI G (injC SB) (fun r u => k r ∧ u = S)) args s 0 0 (AG G)) (F0 m 0 ls []) := by
  refine lv_iload_n C.1.1 C.1.2.1 dX7_yes_0 rfl (lv_at hl 0 rfl) ?_
  refine y_if_eq C xt0 dX7_yes_1 (tgt := 8) (by decide) (fun c1 => ?_) (fun c1 => ?_)
  · have h := h.1 c1
    refine y_iconst C dX7_yes_8 ⟨by decide, by decide⟩ (fun v2 t2 => ?_)
    exact y_iret C hw hS t2 ⟨h, rfl⟩ dX7_yes_9
  · have h := h.2 c1
    refine y_iconst C dX7_yes_4 ⟨by decide, by decide⟩ (fun v3 t3 => ?_)
    refine lv_goto (tgt := 9) C.1.1 C.1.2.1 dX7_yes_5 (by decide) ?_
    exact y_iret C hw hS t3 ⟨h, rfl⟩ dX7_yes_9
theorem kX7_yes (l : Launch) (G : GG) (SB S : St) {xv0 : Int32} {x0 : Int} (xt0 : xv0.toInt = x0) {k : Int → Prop} (h : wX7_yes S x0 k) : CnI l yX7_yes cX7_yes 1 (some .int) 0 0 G (injC SB) [.int xv0] S (fun r u => k r ∧ u = S) :=
  cn_body (by decide +kernel) (Nat.le_of_ble_eq_true rfl) (fun p e s m args below meth c ls C hw hl => uX7_yes_0 C hw va_S.rf xt0 (lv_sub hl [0] rfl) h)
set_option maxHeartbeats 4000000 in
set_option maxRecDepth 10000 in
theorem uX7_under_0 {p : Program} {l : Launch} {e : Env} {s : State} {m : MethodId} {args : Array Value} {below : List Frame} {meth : Method} {c : Code} {G : GG} {SB : St} (C : Cx p s m args meth c G RX7 cX7_under 3 (some .int)) {S : St} {H : Heap} {locs : List Loc} {ls : Array Slot}  {k : Int → Prop} (hw : Wd G ((injC SB) S) H) (hS : va_S (AG G) s.heap H locs) {xv1 : Int32} {x1 : Int} (xt1 : xv1.toInt = x1) {xv2 : Int32} {x2 : Int} (xt2 : xv2.toInt = x2) (hl : lv_has ls 3 [(0, .ref (G.2.2 0)), (1, .int xv1), (2, .int xv2)])  (h : wX7_under_0 S x1 x2 k) : W p l e (rmF 1 22) s m args below meth c H locs 0 0 (MQ below (QcI G (injC SB) (fun r u => k r ∧ u = S)) args s 0 0 (AG G)) (F0 m 0 ls []) := by
  refine lv_aload_n C.1.1 C.1.2.1 dX7_under_0 rfl (lv_at hl 0 rfl) ?_
  refine lv_iload_n C.1.1 C.1.2.1 dX7_under_1 rfl (lv_at hl 1 rfl) ?_
  refine y_cVIp C (As := [.int xv1]) (rest := []) ml_X7_76 (kX7_isType l G SB S xt1 h) (ock_7 SB) (T := TX7) (N := 9) rfl (by decide) ⟨(Nat.le_of_ble_eq_true rfl), (Nat.le_of_ble_eq_true rfl)⟩ hl.1 rfl rfl (Nat.le_of_ble_eq_true rfl) hw hS dX7_under_2 (fun v1 x_1 H locs t1 h hw hS => ?_)
  refine y_if_eq C t1 dX7_under_5 (tgt := 16) (by decide) (fun c2 => ?_) (fun c2 => ?_)
  · have h := h.1 c2
    refine y_bipush C dX7_under_16 ⟨by decide, by decide⟩ (fun v3 t3 => ?_)
    exact y_iret C hw hS t3 ⟨h, rfl⟩ dX7_under_18
  · have h := h.2 c2
    refine lv_aload_n C.1.1 C.1.2.1 dX7_under_8 rfl (lv_at hl 0 rfl) ?_
    refine lv_iload_n C.1.1 C.1.2.1 dX7_under_9 rfl (lv_at hl 2 rfl) ?_
    refine y_cVIp C (As := [.int xv2]) (rest := []) ml_X7_76 (kX7_isType l G SB S xt2 h) (ock_7 SB) (T := TX7) (N := 9) rfl (by decide) ⟨(Nat.le_of_ble_eq_true rfl), (Nat.le_of_ble_eq_true rfl)⟩ hl.1 rfl rfl (Nat.le_of_ble_eq_true rfl) hw hS dX7_under_10 (fun v4 x_4 H locs t4 h hw hS => ?_)
    refine y_if_ne C t4 dX7_under_13 (tgt := 19) (by decide) (fun c5 => ?_) (fun c5 => ?_)
    · have h := h.1 c5
      refine lv_aload_n C.1.1 C.1.2.1 dX7_under_19 rfl (lv_at hl 0 rfl) ?_
      obtain ⟨x_6, e6⟩ : ∃ z : Int, z = S 0 4 := ⟨_, rfl⟩
      obtain ⟨o6, h⟩ := h x_6 e6
      refine y_getO C fl_X7_16 hw (ock_7 SB) rfl e6 o6 dX7_under_20 ?_
      refine lv_iload_n C.1.1 C.1.2.1 dX7_under_23 rfl (lv_at hl 1 rfl) ?_
      refine lv_iload_n C.1.1 C.1.2.1 dX7_under_24 rfl (lv_at hl 2 rfl) ?_
      refine y_cVIp C (As := [.int xv1, .int xv2]) (rest := []) ml_X7_120 (kX2_isUnder l G SB S o6 xt1 xt2 h) (oc_of SB o6) (T := TX2) (N := 9) rfl (by decide) ⟨(Nat.le_of_ble_eq_true rfl), (Nat.le_of_ble_eq_true rfl)⟩ hl.1 rfl rfl (Nat.le_of_ble_eq_true rfl) hw hS dX7_under_25 (fun v7 x_7 H locs t7 h hw hS => ?_)
      refine y_cSIp C (As := [.int v7]) (rest := []) ms_X7_124 (kX7_yes l G SB S t7 h) ⟨(Nat.le_of_ble_eq_true rfl), (Nat.le_of_ble_eq_true rfl)⟩ hl.1 rfl rfl (Nat.le_of_ble_eq_true rfl) hw hS dX7_under_28 (fun v8 x_8 H locs t8 h hw hS => ?_)
      exact y_iret C hw hS t8 ⟨h, rfl⟩ dX7_under_31
    · have h := h.2 c5
      refine y_bipush C dX7_under_16 ⟨by decide, by decide⟩ (fun v9 t9 => ?_)
      exact y_iret C hw hS t9 ⟨h, rfl⟩ dX7_under_18
theorem kX7_under (l : Launch) (G : GG) (SB S : St) {xv1 : Int32} {x1 : Int} (xt1 : xv1.toInt = x1) {xv2 : Int32} {x2 : Int} (xt2 : xv2.toInt = x2) {k : Int → Prop} (h : wX7_under S x1 x2 k) : CnI l yX7_under cX7_under 3 (some .int) 1 22 G (injC SB) [.ref (G.2.2 0), .int xv1, .int xv2] S (fun r u => k r ∧ u = S) :=
  cn_body (by decide +kernel) (Nat.le_of_ble_eq_true rfl) (fun p e s m args below meth c ls C hw hl => uX7_under_0 C hw va_S.rf xt1 xt2 (lv_sub hl [0, 1, 2] rfl) h)
set_option maxHeartbeats 4000000 in
set_option maxRecDepth 10000 in
theorem uX7_isMember_0 {p : Program} {l : Launch} {e : Env} {s : State} {m : MethodId} {args : Array Value} {below : List Frame} {meth : Method} {c : Code} {G : GG} {SB : St} (C : Cx p s m args meth c G RX7 cX7_isMember 2 (some .boolean)) {S : St} {H : Heap} {locs : List Loc} {ls : Array Slot}  {k : Int → Prop} (hw : Wd G ((injC SB) S) H) (hS : va_S (AG G) s.heap H locs) {xv1 : Int32} {x1 : Int} (xt1 : xv1.toInt = x1) (hl : lv_has ls 2 [(0, .ref (G.2.2 0)), (1, .int xv1)])  (h : wX7_isMember_0 S x1 k) : W p l e (rmF 0 0) s m args below meth c H locs 0 0 (MQ below (QcI G (injC SB) (fun r u => k r ∧ u = S)) args s 0 0 (AG G)) (F0 m 0 ls []) := by
  refine lv_iload_n C.1.1 C.1.2.1 dX7_isMember_0 rfl (lv_at hl 1 rfl) ?_
  refine y_if_lt C xt1 dX7_isMember_1 (tgt := 19) (by decide) (fun c1 => ?_) (fun c1 => ?_)
  · have h := h.1 c1
    refine y_iconst C dX7_isMember_19 ⟨by decide, by decide⟩ (fun v2 t2 => ?_)
    exact y_zret C hw hS t2 (Or.inl rfl) ⟨h, rfl⟩ dX7_isMember_20
  · have h := h.2 c1
    refine lv_iload_n C.1.1 C.1.2.1 dX7_isMember_4 rfl (lv_at hl 1 rfl) ?_
    refine lv_aload_n C.1.1 C.1.2.1 dX7_isMember_5 rfl (lv_at hl 0 rfl) ?_
    obtain ⟨x_3, e3⟩ : ∃ z : Int, z = S 0 4 := ⟨_, rfl⟩
    obtain ⟨o3, h⟩ := h x_3 e3
    refine y_getO C fl_X7_16 hw (ock_7 SB) rfl e3 o3 dX7_isMember_6 ?_
    refine y_getI C fl_X7_215 hw (oc_of SB o3) rfl dX7_isMember_9 (fun v4 t4 => ?_)
    refine y_icmp_ge C xt1 t4 dX7_isMember_12 (tgt := 19) (by decide) (fun c5 => ?_) (fun c5 => ?_)
    · have h := h.1 c5
      refine y_iconst C dX7_isMember_19 ⟨by decide, by decide⟩ (fun v6 t6 => ?_)
      exact y_zret C hw hS t6 (Or.inl rfl) ⟨h, rfl⟩ dX7_isMember_20
    · have h := h.2 c5
      refine y_iconst C dX7_isMember_15 ⟨by decide, by decide⟩ (fun v7 t7 => ?_)
      refine lv_goto (tgt := 20) C.1.1 C.1.2.1 dX7_isMember_16 (by decide) ?_
      exact y_zret C hw hS t7 (Or.inr rfl) ⟨h, rfl⟩ dX7_isMember_20
theorem kX7_isMember (l : Launch) (G : GG) (SB S : St) {xv1 : Int32} {x1 : Int} (xt1 : xv1.toInt = x1) {k : Int → Prop} (h : wX7_isMember S x1 k) : CnI l yX7_isMember cX7_isMember 2 (some .boolean) 0 0 G (injC SB) [.ref (G.2.2 0), .int xv1] S (fun r u => k r ∧ u = S) :=
  cn_body (by decide +kernel) (Nat.le_of_ble_eq_true rfl) (fun p e s m args below meth c ls C hw hl => uX7_isMember_0 C hw va_S.rf xt1 (lv_sub hl [0, 1] rfl) h)
set_option maxHeartbeats 4000000 in
set_option maxRecDepth 10000 in
theorem uX7_member_0 {p : Program} {l : Launch} {e : Env} {s : State} {m : MethodId} {args : Array Value} {below : List Frame} {meth : Method} {c : Code} {G : GG} {SB : St} (C : Cx p s m args meth c G RX7 cX7_member 4 (some .int)) {S : St} {H : Heap} {locs : List Loc} {ls : Array Slot}  {k : Int → Prop} (hw : Wd G ((injC SB) S) H) (hS : va_S (AG G) s.heap H locs) {xv1 : Int32} {x1 : Int} (xt1 : xv1.toInt = x1) {xv2 : Int32} {x2 : Int} (xt2 : xv2.toInt = x2) (hl : lv_has ls 4 [(0, .ref (G.2.2 0)), (1, .int xv1), (2, .int xv2)])  (h : wX7_member_0 S x1 x2 k) : W p l e (rmF 1 21) s m args below meth c H locs 0 0 (MQ below (QcI G (injC SB) (fun r u => k r ∧ u = S)) args s 0 0 (AG G)) (F0 m 0 ls []) := by
  refine lv_aload_n C.1.1 C.1.2.1 dX7_member_0 rfl (lv_at hl 0 rfl) ?_
  refine lv_iload_n C.1.1 C.1.2.1 dX7_member_1 rfl (lv_at hl 1 rfl) ?_
  refine y_cVIp C (As := [.int xv1]) (rest := []) ml_X7_128 (kX7_isMember l G SB S xt1 h) (ock_7 SB) (T := TX7) (N := 9) rfl (by decide) ⟨(Nat.le_of_ble_eq_true rfl), (Nat.le_of_ble_eq_true rfl)⟩ hl.1 rfl rfl (Nat.le_of_ble_eq_true rfl) hw hS dX7_member_2 (fun v1 x_1 H locs t1 h hw hS => ?_)
  refine y_if_ne C t1 dX7_member_5 (tgt := 11) (by decide) (fun c2 => ?_) (fun c2 => ?_)
  · have h := h.1 c2
    refine lv_aload_n C.1.1 C.1.2.1 dX7_member_11 rfl (lv_at hl 0 rfl) ?_
    obtain ⟨x_3, e3⟩ : ∃ z : Int, z = S 0 4 := ⟨_, rfl⟩
    obtain ⟨o3, h⟩ := h x_3 e3
    refine y_getO C fl_X7_16 hw (ock_7 SB) rfl e3 o3 dX7_member_12 ?_
    refine y_getA C fl_X7_131 hw (oc_of SB o3) rfl (o := 2) rfl dX7_member_15 ?_
    refine lv_iload_n C.1.1 C.1.2.1 dX7_member_18 rfl (lv_at hl 1 rfl) ?_
    obtain ⟨b5, h⟩ := h
    obtain ⟨x_5, e5⟩ : ∃ z : Int, z = x_3 + 150 + 3 * x1 := ⟨_, rfl⟩
    have h := h x_5 e5
    have o5 : isO 3 x_5 := isO_mb o3 b5 e5
    refine y_mbO C hw o3 xt1 b5 e5 dX7_member_19 ?_
    refine lv_astore_n (lv' := [(3, .ref (G.2.2 (x_5).toNat)), (0, .ref (G.2.2 0)), (1, .int xv1), (2, .int xv2)]) C.1.1 C.1.2.1 dX7_member_20 rfl hl (by decide) rfl (fun ls hl => ?_)
    refine lv_iload_n C.1.1 C.1.2.1 dX7_member_21 rfl (lv_at hl 3 rfl) ?_
    by_cases c6_0 : x2 = 0
    · have h := h.1 c6_0
      refine y_tabIn C xt2 c6_0 dX7_member_22 (by decide) (by decide) (off := 30) (by decide +kernel) (tgt := 52) (by decide) ?_
      refine lv_aload_n C.1.1 C.1.2.1 dX7_member_52 rfl (lv_at hl 0 rfl) ?_
      refine y_getI C fl_X7_135 hw (oc_of SB o5) rfl dX7_member_53 (fun v7 t7 => ?_)
      exact y_iret C hw hS t7 ⟨h, rfl⟩ dX7_member_56
    have h := h.2
    by_cases c6_1 : x2 = 1
    · have h := h.1 c6_1
      refine y_tabIn C xt2 c6_1 dX7_member_22 (by decide) (by decide) (off := 35) (by decide +kernel) (tgt := 57) (by decide) ?_
      refine lv_aload_n C.1.1 C.1.2.1 dX7_member_57 rfl (lv_at hl 0 rfl) ?_
      refine y_getI C fl_X7_140 hw (oc_of SB o5) rfl dX7_member_58 (fun v8 t8 => ?_)
      exact y_iret C hw hS t8 ⟨h, rfl⟩ dX7_member_61
    have h := h.2
    by_cases c6_2 : x2 = 2
    · have h := h.1 c6_2
      refine y_tabIn C xt2 c6_2 dX7_member_22 (by decide) (by decide) (off := 40) (by decide +kernel) (tgt := 62) (by decide) ?_
      refine lv_aload_n C.1.1 C.1.2.1 dX7_member_62 rfl (lv_at hl 0 rfl) ?_
      refine y_getI C fl_X7_143 hw (oc_of SB o5) rfl dX7_member_63 (fun v9 t9 => ?_)
      exact y_iret C hw hS t9 ⟨h, rfl⟩ dX7_member_66
    have h := h.2
    by_cases c6_3 : x2 = 3
    · have h := h.1 c6_3
      refine y_tabIn C xt2 c6_3 dX7_member_22 (by decide) (by decide) (off := 45) (by decide +kernel) (tgt := 67) (by decide) ?_
      refine lv_aload_n C.1.1 C.1.2.1 dX7_member_67 rfl (lv_at hl 0 rfl) ?_
      refine y_getI C fl_X7_146 hw (oc_of SB o5) rfl dX7_member_68 (fun v10 t10 => ?_)
      exact y_iret C hw hS t10 ⟨h, rfl⟩ dX7_member_71
    have h := h.2
    have c6 := sw_0_3 c6_0 c6_1 c6_2 c6_3
    have h := h c6
    refine y_tabOut C xt2 c6 dX7_member_22 (tgt := 72) (by decide) ?_
    refine y_bipush C dX7_member_72 ⟨by decide, by decide⟩ (fun v11 t11 => ?_)
    exact y_iret C hw hS t11 ⟨h, rfl⟩ dX7_member_74
  · have h := h.2 c2
    refine y_bipush C dX7_member_8 ⟨by decide, by decide⟩ (fun v12 t12 => ?_)
    exact y_iret C hw hS t12 ⟨h, rfl⟩ dX7_member_10
theorem kX7_member (l : Launch) (G : GG) (SB S : St) {xv1 : Int32} {x1 : Int} (xt1 : xv1.toInt = x1) {xv2 : Int32} {x2 : Int} (xt2 : xv2.toInt = x2) {k : Int → Prop} (h : wX7_member S x1 x2 k) : CnI l yX7_member cX7_member 4 (some .int) 1 21 G (injC SB) [.ref (G.2.2 0), .int xv1, .int xv2] S (fun r u => k r ∧ u = S) :=
  cn_body (by decide +kernel) (Nat.le_of_ble_eq_true rfl) (fun p e s m args below meth c ls C hw hl => uX7_member_0 C hw va_S.rf xt1 xt2 (lv_sub hl [0, 1, 2] rfl) h)
set_option maxHeartbeats 4000000 in
set_option maxRecDepth 10000 in
theorem uX7_seen_0 {p : Program} {l : Launch} {e : Env} {s : State} {m : MethodId} {args : Array Value} {below : List Frame} {meth : Method} {c : Code} {G : GG} {SB : St} (C : Cx p s m args meth c G RX7 cX7_seen 5 (some .int)) {S : St} {H : Heap} {locs : List Loc} {ls : Array Slot}  {k : Int → Prop} (hw : Wd G ((injC SB) S) H) (hS : va_S (AG G) s.heap H locs) {xv1 : Int32} {x1 : Int} (xt1 : xv1.toInt = x1) {xv2 : Int32} {x2 : Int} (xt2 : xv2.toInt = x2) {xv3 : Int32} {x3 : Int} (xt3 : xv3.toInt = x3) (hl : lv_has ls 5 [(0, .ref (G.2.2 0)), (1, .int xv1), (2, .int xv2), (3, .int xv3)])  (h : wX7_seen_0 S x1 x2 x3 k) : W p l e (rmF 1 24) s m args below meth c H locs 0 0 (MQ below (QcI G (injC SB) (fun r u => k r ∧ u = S)) args s 0 0 (AG G)) (F0 m 0 ls []) := by
  refine lv_aload_n C.1.1 C.1.2.1 dX7_seen_0 rfl (lv_at hl 0 rfl) ?_
  refine lv_iload_n C.1.1 C.1.2.1 dX7_seen_1 rfl (lv_at hl 1 rfl) ?_
  refine y_cVIp C (As := [.int xv1]) (rest := []) ml_X7_76 (kX7_isType l G SB S xt1 h) (ock_7 SB) (T := TX7) (N := 9) rfl (by decide) ⟨(Nat.le_of_ble_eq_true rfl), (Nat.le_of_ble_eq_true rfl)⟩ hl.1 rfl rfl (Nat.le_of_ble_eq_true rfl) hw hS dX7_seen_2 (fun v1 x_1 H locs t1 h hw hS => ?_)
  refine y_if_eq C t1 dX7_seen_5 (tgt := 16) (by decide) (fun c2 => ?_) (fun c2 => ?_)
  · have h := h.1 c2
    refine y_bipush C dX7_seen_16 ⟨by decide, by decide⟩ (fun v3 t3 => ?_)
    exact y_iret C hw hS t3 ⟨h, rfl⟩ dX7_seen_18
  · have h := h.2 c2
    refine lv_aload_n C.1.1 C.1.2.1 dX7_seen_8 rfl (lv_at hl 0 rfl) ?_
    refine lv_iload_n C.1.1 C.1.2.1 dX7_seen_9 rfl (lv_at hl 2 rfl) ?_
    refine y_cVIp C (As := [.int xv2]) (rest := []) ml_X7_128 (kX7_isMember l G SB S xt2 h) (ock_7 SB) (T := TX7) (N := 9) rfl (by decide) ⟨(Nat.le_of_ble_eq_true rfl), (Nat.le_of_ble_eq_true rfl)⟩ hl.1 rfl rfl (Nat.le_of_ble_eq_true rfl) hw hS dX7_seen_10 (fun v4 x_4 H locs t4 h hw hS => ?_)
    refine y_if_ne C t4 dX7_seen_13 (tgt := 19) (by decide) (fun c5 => ?_) (fun c5 => ?_)
    · have h := h.1 c5
      refine lv_iload_n C.1.1 C.1.2.1 dX7_seen_19 rfl (lv_at hl 3 rfl) ?_
      refine y_if_lt C xt3 dX7_seen_20 (tgt := 28) (by decide) (fun c6 => ?_) (fun c6 => ?_)
      · have h := h.1 c6
        refine y_bipush C dX7_seen_28 ⟨by decide, by decide⟩ (fun v7 t7 => ?_)
        exact y_iret C hw hS t7 ⟨h, rfl⟩ dX7_seen_30
      · have h := h.2 c6
        refine lv_iload_n C.1.1 C.1.2.1 dX7_seen_23 rfl (lv_at hl 3 rfl) ?_
        refine y_iconst C dX7_seen_24 ⟨by decide, by decide⟩ (fun v8 t8 => ?_)
        refine y_icmp_le C xt3 t8 dX7_seen_25 (tgt := 31) (by decide) (fun c9 => ?_) (fun c9 => ?_)
        · have h := h.1 c9
          refine lv_aload_n C.1.1 C.1.2.1 dX7_seen_31 rfl (lv_at hl 0 rfl) ?_
          obtain ⟨x_10, e10⟩ : ∃ z : Int, z = S 0 4 := ⟨_, rfl⟩
          obtain ⟨o10, h⟩ := h x_10 e10
          refine y_getO C fl_X7_16 hw (ock_7 SB) rfl e10 o10 dX7_seen_32 ?_
          refine y_getA C fl_X7_131 hw (oc_of SB o10) rfl (o := 2) rfl dX7_seen_35 ?_
          refine lv_iload_n C.1.1 C.1.2.1 dX7_seen_38 rfl (lv_at hl 2 rfl) ?_
          obtain ⟨b12, h⟩ := h
          obtain ⟨x_12, e12⟩ : ∃ z : Int, z = x_10 + 150 + 3 * x2 := ⟨_, rfl⟩
          have h := h x_12 e12
          have o12 : isO 3 x_12 := isO_mb o10 b12 e12
          refine y_mbO C hw o10 xt2 b12 e12 dX7_seen_39 ?_
          refine lv_astore (lv' := [(4, .ref (G.2.2 (x_12).toNat)), (0, .ref (G.2.2 0)), (1, .int xv1), (2, .int xv2), (3, .int xv3)]) C.1.1 C.1.2.1 dX7_seen_40 hl (by decide) rfl (fun ls hl => ?_)
          refine lv_aload C.1.1 C.1.2.1 dX7_seen_42 (lv_at hl 0 rfl) ?_
          refine y_getA C fl_X7_149 hw (oc_of SB o12) rfl (o := 1) rfl dX7_seen_44 ?_
          refine lv_iload_n C.1.1 C.1.2.1 dX7_seen_47 rfl (lv_at hl 4 rfl) ?_
          obtain ⟨b14, h⟩ := h
          refine y_iald C hw (ac_3_5 SB o12) xt3 b14 dX7_seen_48 (fun v14 t14 => ?_)
          refine y_bipush C dX7_seen_49 ⟨by decide, by decide⟩ (fun v15 t15 => ?_)
          refine y_icmp_eq C t14 t15 dX7_seen_51 (tgt := 70) (by decide) (fun c16 => ?_) (fun c16 => ?_)
          · have h := h.1 c16
            refine y_bipush C dX7_seen_70 ⟨by decide, by decide⟩ (fun v17 t17 => ?_)
            exact y_iret C hw hS t17 ⟨h, rfl⟩ dX7_seen_72
          · have h := h.2 c16
            refine lv_aload_n C.1.1 C.1.2.1 dX7_seen_54 rfl (lv_at hl 1 rfl) ?_
            obtain ⟨x_18, e18⟩ : ∃ z : Int, z = S 0 4 := ⟨_, rfl⟩
            obtain ⟨o18, h⟩ := h x_18 e18
            refine y_getO C fl_X7_16 hw (ock_7 SB) rfl e18 o18 dX7_seen_55 ?_
            refine lv_iload_n C.1.1 C.1.2.1 dX7_seen_58 rfl (lv_at hl 2 rfl) ?_
            refine lv_aload C.1.1 C.1.2.1 dX7_seen_59 (lv_at hl 0 rfl) ?_
            refine y_getI C fl_X7_135 hw (oc_of SB o12) rfl dX7_seen_61 (fun v19 t19 => ?_)
            refine y_cVIp C (As := [.int xv1, .int v19]) (rest := []) ml_X7_120 (kX2_isUnder l G SB S o18 xt1 t19 h) (oc_of SB o18) (T := TX2) (N := 9) rfl (by decide) ⟨(Nat.le_of_ble_eq_true rfl), (Nat.le_of_ble_eq_true rfl)⟩ hl.1 rfl rfl (Nat.le_of_ble_eq_true rfl) hw hS dX7_seen_64 (fun v20 x_20 H locs t20 h hw hS => ?_)
            refine y_if_ne C t20 dX7_seen_67 (tgt := 73) (by decide) (fun c21 => ?_) (fun c21 => ?_)
            · have h := h.1 c21
              refine lv_aload_n C.1.1 C.1.2.1 dX7_seen_73 rfl (lv_at hl 1 rfl) ?_
              obtain ⟨x_22, e22⟩ : ∃ z : Int, z = S 0 4 := ⟨_, rfl⟩
              obtain ⟨o22, h⟩ := h x_22 e22
              refine y_getO C fl_X7_16 hw (ock_7 SB) rfl e22 o22 dX7_seen_74 ?_
              refine lv_aload_n C.1.1 C.1.2.1 dX7_seen_77 rfl (lv_at hl 1 rfl) ?_
              obtain ⟨x_23, e23⟩ : ∃ z : Int, z = S 0 4 := ⟨_, rfl⟩
              obtain ⟨o23, h⟩ := h x_23 e23
              refine y_getO C fl_X7_16 hw (ock_7 SB) rfl e23 o23 dX7_seen_78 ?_
              refine y_getA C fl_X7_80 hw (oc_of SB o23) rfl (o := 1) rfl dX7_seen_81 ?_
              refine lv_iload_n C.1.1 C.1.2.1 dX7_seen_84 rfl (lv_at hl 2 rfl) ?_
              obtain ⟨b25, h⟩ := h
              obtain ⟨x_25, e25⟩ : ∃ z : Int, z = x_23 + 6 + 6 * x1 := ⟨_, rfl⟩
              have h := h x_25 e25
              have o25 : isO 6 x_25 := isO_ty o23 b25 e25
              refine y_tyO C hw o23 xt1 b25 e25 dX7_seen_85 ?_
              refine lv_aload C.1.1 C.1.2.1 dX7_seen_86 (lv_at hl 0 rfl) ?_
              refine lv_iload_n C.1.1 C.1.2.1 dX7_seen_88 rfl (lv_at hl 4 rfl) ?_
              refine y_cVIp C (As := [.ref (G.2.2 (x_25).toNat), .ref (G.2.2 (x_12).toNat), .int xv3]) (rest := []) ml_X7_152 (kX2_kindSeen l G SB S o22 o25 o12 xt3 h) (oc_of SB o22) (T := TX2) (N := 9) rfl (by decide) ⟨(Nat.le_of_ble_eq_true rfl), (Nat.le_of_ble_eq_true rfl)⟩ hl.1 rfl rfl (Nat.le_of_ble_eq_true rfl) hw hS dX7_seen_89 (fun v26 x_26 H locs t26 h hw hS => ?_)
              exact y_iret C hw hS t26 ⟨h, rfl⟩ dX7_seen_92
            · have h := h.2 c21
              refine y_bipush C dX7_seen_70 ⟨by decide, by decide⟩ (fun v27 t27 => ?_)
              exact y_iret C hw hS t27 ⟨h, rfl⟩ dX7_seen_72
        · have h := h.2 c9
          refine y_bipush C dX7_seen_28 ⟨by decide, by decide⟩ (fun v28 t28 => ?_)
          exact y_iret C hw hS t28 ⟨h, rfl⟩ dX7_seen_30
    · have h := h.2 c5
      refine y_bipush C dX7_seen_16 ⟨by decide, by decide⟩ (fun v29 t29 => ?_)
      exact y_iret C hw hS t29 ⟨h, rfl⟩ dX7_seen_18
theorem kX7_seen (l : Launch) (G : GG) (SB S : St) {xv1 : Int32} {x1 : Int} (xt1 : xv1.toInt = x1) {xv2 : Int32} {x2 : Int} (xt2 : xv2.toInt = x2) {xv3 : Int32} {x3 : Int} (xt3 : xv3.toInt = x3) {k : Int → Prop} (h : wX7_seen S x1 x2 x3 k) : CnI l yX7_seen cX7_seen 5 (some .int) 1 24 G (injC SB) [.ref (G.2.2 0), .int xv1, .int xv2, .int xv3] S (fun r u => k r ∧ u = S) :=
  cn_body (by decide +kernel) (Nat.le_of_ble_eq_true rfl) (fun p e s m args below meth c ls C hw hl => uX7_seen_0 C hw va_S.rf xt1 xt2 xt3 (lv_sub hl [0, 1, 2, 3] rfl) h)
set_option maxHeartbeats 4000000 in
set_option maxRecDepth 10000 in
theorem uX7_orNone_0 {p : Program} {l : Launch} {e : Env} {s : State} {m : MethodId} {args : Array Value} {below : List Frame} {meth : Method} {c : Code} {G : GG} {SB : St} (C : Cx p s m args meth c G RX7 cX7_orNone 1 (some .int)) {S : St} {H : Heap} {locs : List Loc} {ls : Array Slot}  {k : Int → Prop} (hw : Wd G ((injC SB) S) H) (hS : va_S (AG G) s.heap H locs) {xv0 : Int32} {x0 : Int} (xt0 : xv0.toInt = x0) (hl : lv_has ls 1 [(0, .int xv0)])  (h : wX7_orNone_0 S x0 k) : W p l e (rmF 0 0) s m args below meth c H locs 0 0 (MQ below (QcI G (injC SB) (fun r u => k r ∧ u = S)) args s 0 0 (AG G)) (F0 m 0 ls []) := by
  refine lv_iload_n C.1.1 C.1.2.1 dX7_orNone_0 rfl (lv_at hl 0 rfl) ?_
  refine y_bipush C dX7_orNone_1 ⟨by decide, by decide⟩ (fun v1 t1 => ?_)
  refine y_icmp_ne C xt0 t1 dX7_orNone_3 (tgt := 11) (by decide) (fun c2 => ?_) (fun c2 => ?_)
  · have h := h.1 c2
    refine lv_iload_n C.1.1 C.1.2.1 dX7_orNone_11 rfl (lv_at hl 0 rfl) ?_
    exact y_iret C hw hS xt0 ⟨h, rfl⟩ dX7_orNone_12
  · have h := h.2 c2
    refine y_bipush C dX7_orNone_6 ⟨by decide, by decide⟩ (fun v3 t3 => ?_)
    refine lv_goto (tgt := 12) C.1.1 C.1.2.1 dX7_orNone_8 (by decide) ?_
    exact y_iret C hw hS t3 ⟨h, rfl⟩ dX7_orNone_12
theorem kX7_orNone (l : Launch) (G : GG) (SB S : St) {xv0 : Int32} {x0 : Int} (xt0 : xv0.toInt = x0) {k : Int → Prop} (h : wX7_orNone S x0 k) : CnI l yX7_orNone cX7_orNone 1 (some .int) 0 0 G (injC SB) [.int xv0] S (fun r u => k r ∧ u = S) :=
  cn_body (by decide +kernel) (Nat.le_of_ble_eq_true rfl) (fun p e s m args below meth c ls C hw hl => uX7_orNone_0 C hw va_S.rf xt0 (lv_sub hl [0] rfl) h)
set_option maxHeartbeats 4000000 in
set_option maxRecDepth 10000 in
theorem uX7_erased_0 {p : Program} {l : Launch} {e : Env} {s : State} {m : MethodId} {args : Array Value} {below : List Frame} {meth : Method} {c : Code} {G : GG} {SB : St} (C : Cx p s m args meth c G RX7 cX7_erased 3 (some .int)) {S : St} {H : Heap} {locs : List Loc} {ls : Array Slot}  {k : Int → Prop} (hw : Wd G ((injC SB) S) H) (hS : va_S (AG G) s.heap H locs) {xv1 : Int32} {x1 : Int} (xt1 : xv1.toInt = x1) {xv2 : Int32} {x2 : Int} (xt2 : xv2.toInt = x2) (hl : lv_has ls 3 [(0, .ref (G.2.2 0)), (1, .int xv1), (2, .int xv2)])  (h : wX7_erased_0 S x1 x2 k) : W p l e (rmF 1 21) s m args below meth c H locs 0 0 (MQ below (QcI G (injC SB) (fun r u => k r ∧ u = S)) args s 0 0 (AG G)) (F0 m 0 ls []) := by
  refine lv_aload_n C.1.1 C.1.2.1 dX7_erased_0 rfl (lv_at hl 0 rfl) ?_
  refine lv_iload_n C.1.1 C.1.2.1 dX7_erased_1 rfl (lv_at hl 1 rfl) ?_
  refine y_cVIp C (As := [.int xv1]) (rest := []) ml_X7_128 (kX7_isMember l G SB S xt1 h) (ock_7 SB) (T := TX7) (N := 9) rfl (by decide) ⟨(Nat.le_of_ble_eq_true rfl), (Nat.le_of_ble_eq_true rfl)⟩ hl.1 rfl rfl (Nat.le_of_ble_eq_true rfl) hw hS dX7_erased_2 (fun v1 x_1 H locs t1 h hw hS => ?_)
  refine y_if_ne C t1 dX7_erased_5 (tgt := 11) (by decide) (fun c2 => ?_) (fun c2 => ?_)
  · have h := h.1 c2
    refine lv_iload_n C.1.1 C.1.2.1 dX7_erased_11 rfl (lv_at hl 2 rfl) ?_
    refine y_if_lt C xt2 dX7_erased_12 (tgt := 20) (by decide) (fun c3 => ?_) (fun c3 => ?_)
    · have h := h.1 c3
      refine y_bipush C dX7_erased_20 ⟨by decide, by decide⟩ (fun v4 t4 => ?_)
      exact y_iret C hw hS t4 ⟨h, rfl⟩ dX7_erased_22
    · have h := h.2 c3
      refine lv_iload_n C.1.1 C.1.2.1 dX7_erased_15 rfl (lv_at hl 2 rfl) ?_
      refine y_iconst C dX7_erased_16 ⟨by decide, by decide⟩ (fun v5 t5 => ?_)
      refine y_icmp_le C xt2 t5 dX7_erased_17 (tgt := 23) (by decide) (fun c6 => ?_) (fun c6 => ?_)
      · have h := h.1 c6
        refine lv_aload_n C.1.1 C.1.2.1 dX7_erased_23 rfl (lv_at hl 0 rfl) ?_
        obtain ⟨x_7, e7⟩ : ∃ z : Int, z = S 0 4 := ⟨_, rfl⟩
        obtain ⟨o7, h⟩ := h x_7 e7
        refine y_getO C fl_X7_16 hw (ock_7 SB) rfl e7 o7 dX7_erased_24 ?_
        refine y_getA C fl_X7_131 hw (oc_of SB o7) rfl (o := 2) rfl dX7_erased_27 ?_
        refine lv_iload_n C.1.1 C.1.2.1 dX7_erased_30 rfl (lv_at hl 1 rfl) ?_
        obtain ⟨b9, h⟩ := h
        obtain ⟨x_9, e9⟩ : ∃ z : Int, z = x_7 + 150 + 3 * x1 := ⟨_, rfl⟩
        have h := h x_9 e9
        have o9 : isO 3 x_9 := isO_mb o7 b9 e9
        refine y_mbO C hw o7 xt1 b9 e9 dX7_erased_31 ?_
        refine y_getA C fl_X7_156 hw (oc_of SB o9) rfl (o := 2) rfl dX7_erased_32 ?_
        refine lv_iload_n C.1.1 C.1.2.1 dX7_erased_35 rfl (lv_at hl 2 rfl) ?_
        obtain ⟨b11, h⟩ := h
        refine y_iald C hw (ac_3_6 SB o9) xt2 b11 dX7_erased_36 (fun v11 t11 => ?_)
        refine y_cSIp C (As := [.int v11]) (rest := []) ms_X7_159 (kX7_orNone l G SB S t11 h) ⟨(Nat.le_of_ble_eq_true rfl), (Nat.le_of_ble_eq_true rfl)⟩ hl.1 rfl rfl (Nat.le_of_ble_eq_true rfl) hw hS dX7_erased_37 (fun v12 x_12 H locs t12 h hw hS => ?_)
        exact y_iret C hw hS t12 ⟨h, rfl⟩ dX7_erased_40
      · have h := h.2 c6
        refine y_bipush C dX7_erased_20 ⟨by decide, by decide⟩ (fun v13 t13 => ?_)
        exact y_iret C hw hS t13 ⟨h, rfl⟩ dX7_erased_22
  · have h := h.2 c2
    refine y_bipush C dX7_erased_8 ⟨by decide, by decide⟩ (fun v14 t14 => ?_)
    exact y_iret C hw hS t14 ⟨h, rfl⟩ dX7_erased_10
theorem kX7_erased (l : Launch) (G : GG) (SB S : St) {xv1 : Int32} {x1 : Int} (xt1 : xv1.toInt = x1) {xv2 : Int32} {x2 : Int} (xt2 : xv2.toInt = x2) {k : Int → Prop} (h : wX7_erased S x1 x2 k) : CnI l yX7_erased cX7_erased 3 (some .int) 1 21 G (injC SB) [.ref (G.2.2 0), .int xv1, .int xv2] S (fun r u => k r ∧ u = S) :=
  cn_body (by decide +kernel) (Nat.le_of_ble_eq_true rfl) (fun p e s m args below meth c ls C hw hl => uX7_erased_0 C hw va_S.rf xt1 xt2 (lv_sub hl [0, 1, 2] rfl) h)
set_option maxHeartbeats 4000000 in
set_option maxRecDepth 10000 in
theorem uX7_overrides_0 {p : Program} {l : Launch} {e : Env} {s : State} {m : MethodId} {args : Array Value} {below : List Frame} {meth : Method} {c : Code} {G : GG} {SB : St} (C : Cx p s m args meth c G RX7 cX7_overrides 3 (some .int)) {S : St} {H : Heap} {locs : List Loc} {ls : Array Slot}  {k : Int → Prop} (hw : Wd G ((injC SB) S) H) (hS : va_S (AG G) s.heap H locs) {xv1 : Int32} {x1 : Int} (xt1 : xv1.toInt = x1) {xv2 : Int32} {x2 : Int} (xt2 : xv2.toInt = x2) (hl : lv_has ls 3 [(0, .ref (G.2.2 0)), (1, .int xv1), (2, .int xv2)])  (h : wX7_overrides_0 S x1 x2 k) : W p l e (rmF 1 22) s m args below meth c H locs 0 0 (MQ below (QcI G (injC SB) (fun r u => k r ∧ u = S)) args s 0 0 (AG G)) (F0 m 0 ls []) := by
  refine lv_aload_n C.1.1 C.1.2.1 dX7_overrides_0 rfl (lv_at hl 0 rfl) ?_
  refine lv_iload_n C.1.1 C.1.2.1 dX7_overrides_1 rfl (lv_at hl 1 rfl) ?_
  refine y_cVIp C (As := [.int xv1]) (rest := []) ml_X7_128 (kX7_isMember l G SB S xt1 h) (ock_7 SB) (T := TX7) (N := 9) rfl (by decide) ⟨(Nat.le_of_ble_eq_true rfl), (Nat.le_of_ble_eq_true rfl)⟩ hl.1 rfl rfl (Nat.le_of_ble_eq_true rfl) hw hS dX7_overrides_2 (fun v1 x_1 H locs t1 h hw hS => ?_)
  refine y_if_eq C t1 dX7_overrides_5 (tgt := 16) (by decide) (fun c2 => ?_) (fun c2 => ?_)
  · have h := h.1 c2
    refine y_bipush C dX7_overrides_16 ⟨by decide, by decide⟩ (fun v3 t3 => ?_)
    exact y_iret C hw hS t3 ⟨h, rfl⟩ dX7_overrides_18
  · have h := h.2 c2
    refine lv_aload_n C.1.1 C.1.2.1 dX7_overrides_8 rfl (lv_at hl 0 rfl) ?_
    refine lv_iload_n C.1.1 C.1.2.1 dX7_overrides_9 rfl (lv_at hl 2 rfl) ?_
    refine y_cVIp C (As := [.int xv2]) (rest := []) ml_X7_128 (kX7_isMember l G SB S xt2 h) (ock_7 SB) (T := TX7) (N := 9) rfl (by decide) ⟨(Nat.le_of_ble_eq_true rfl), (Nat.le_of_ble_eq_true rfl)⟩ hl.1 rfl rfl (Nat.le_of_ble_eq_true rfl) hw hS dX7_overrides_10 (fun v4 x_4 H locs t4 h hw hS => ?_)
    refine y_if_ne C t4 dX7_overrides_13 (tgt := 19) (by decide) (fun c5 => ?_) (fun c5 => ?_)
    · have h := h.1 c5
      refine lv_aload_n C.1.1 C.1.2.1 dX7_overrides_19 rfl (lv_at hl 0 rfl) ?_
      obtain ⟨x_6, e6⟩ : ∃ z : Int, z = S 0 4 := ⟨_, rfl⟩
      obtain ⟨o6, h⟩ := h x_6 e6
      refine y_getO C fl_X7_16 hw (ock_7 SB) rfl e6 o6 dX7_overrides_20 ?_
      refine lv_iload_n C.1.1 C.1.2.1 dX7_overrides_23 rfl (lv_at hl 1 rfl) ?_
      refine lv_iload_n C.1.1 C.1.2.1 dX7_overrides_24 rfl (lv_at hl 2 rfl) ?_
      refine y_cVIp C (As := [.int xv1, .int xv2]) (rest := []) ml_X7_163 (kX2_hasOverride l G SB S o6 xt1 xt2 h) (oc_of SB o6) (T := TX2) (N := 9) rfl (by decide) ⟨(Nat.le_of_ble_eq_true rfl), (Nat.le_of_ble_eq_true rfl)⟩ hl.1 rfl rfl (Nat.le_of_ble_eq_true rfl) hw hS dX7_overrides_25 (fun v7 x_7 H locs t7 h hw hS => ?_)
      refine y_cSIp C (As := [.int v7]) (rest := []) ms_X7_124 (kX7_yes l G SB S t7 h) ⟨(Nat.le_of_ble_eq_true rfl), (Nat.le_of_ble_eq_true rfl)⟩ hl.1 rfl rfl (Nat.le_of_ble_eq_true rfl) hw hS dX7_overrides_28 (fun v8 x_8 H locs t8 h hw hS => ?_)
      exact y_iret C hw hS t8 ⟨h, rfl⟩ dX7_overrides_31
    · have h := h.2 c5
      refine y_bipush C dX7_overrides_16 ⟨by decide, by decide⟩ (fun v9 t9 => ?_)
      exact y_iret C hw hS t9 ⟨h, rfl⟩ dX7_overrides_18
theorem kX7_overrides (l : Launch) (G : GG) (SB S : St) {xv1 : Int32} {x1 : Int} (xt1 : xv1.toInt = x1) {xv2 : Int32} {x2 : Int} (xt2 : xv2.toInt = x2) {k : Int → Prop} (h : wX7_overrides S x1 x2 k) : CnI l yX7_overrides cX7_overrides 3 (some .int) 1 22 G (injC SB) [.ref (G.2.2 0), .int xv1, .int xv2] S (fun r u => k r ∧ u = S) :=
  cn_body (by decide +kernel) (Nat.le_of_ble_eq_true rfl) (fun p e s m args below meth c ls C hw hl => uX7_overrides_0 C hw va_S.rf xt1 xt2 (lv_sub hl [0, 1, 2] rfl) h)
set_option maxHeartbeats 4000000 in
set_option maxRecDepth 10000 in
theorem uX7_bridge_0 {p : Program} {l : Launch} {e : Env} {s : State} {m : MethodId} {args : Array Value} {below : List Frame} {meth : Method} {c : Code} {G : GG} {SB : St} (C : Cx p s m args meth c G RX7 cX7_bridge 7 (some .int)) {S : St} {H : Heap} {locs : List Loc} {ls : Array Slot}  {k : Int → Prop} (hw : Wd G ((injC SB) S) H) (hS : va_S (AG G) s.heap H locs) {xv1 : Int32} {x1 : Int} (xt1 : xv1.toInt = x1) {xv2 : Int32} {x2 : Int} (xt2 : xv2.toInt = x2) {xv3 : Int32} {x3 : Int} (xt3 : xv3.toInt = x3) (hl : lv_has ls 7 [(0, .ref (G.2.2 0)), (1, .int xv1), (2, .int xv2), (3, .int xv3)])  (h : wX7_bridge_0 S x1 x2 x3 k) : W p l e (rmF 1 21) s m args below meth c H locs 0 0 (MQ below (QcI G (injC SB) (fun r u => k r ∧ u = S)) args s 0 0 (AG G)) (F0 m 0 ls []) := by
  refine lv_aload_n C.1.1 C.1.2.1 dX7_bridge_0 rfl (lv_at hl 0 rfl) ?_
  refine lv_iload_n C.1.1 C.1.2.1 dX7_bridge_1 rfl (lv_at hl 1 rfl) ?_
  refine y_cVIp C (As := [.int xv1]) (rest := []) ml_X7_76 (kX7_isType l G SB S xt1 h) (ock_7 SB) (T := TX7) (N := 9) rfl (by decide) ⟨(Nat.le_of_ble_eq_true rfl), (Nat.le_of_ble_eq_true rfl)⟩ hl.1 rfl rfl (Nat.le_of_ble_eq_true rfl) hw hS dX7_bridge_2 (fun v1 x_1 H locs t1 h hw hS => ?_)
  refine y_if_ne C t1 dX7_bridge_5 (tgt := 11) (by decide) (fun c2 => ?_) (fun c2 => ?_)
  · have h := h.1 c2
    refine lv_iload_n C.1.1 C.1.2.1 dX7_bridge_11 rfl (lv_at hl 3 rfl) ?_
    refine y_if_lt C xt3 dX7_bridge_12 (tgt := 20) (by decide) (fun c3 => ?_) (fun c3 => ?_)
    · have h := h.1 c3
      refine y_bipush C dX7_bridge_20 ⟨by decide, by decide⟩ (fun v4 t4 => ?_)
      exact y_iret C hw hS t4 ⟨h, rfl⟩ dX7_bridge_22
    · have h := h.2 c3
      refine lv_iload_n C.1.1 C.1.2.1 dX7_bridge_15 rfl (lv_at hl 3 rfl) ?_
      refine y_iconst C dX7_bridge_16 ⟨by decide, by decide⟩ (fun v5 t5 => ?_)
      refine y_icmp_le C xt3 t5 dX7_bridge_17 (tgt := 23) (by decide) (fun c6 => ?_) (fun c6 => ?_)
      · have h := h.1 c6
        refine lv_aload_n C.1.1 C.1.2.1 dX7_bridge_23 rfl (lv_at hl 0 rfl) ?_
        obtain ⟨x_7, e7⟩ : ∃ z : Int, z = S 0 4 := ⟨_, rfl⟩
        obtain ⟨o7, h⟩ := h x_7 e7
        refine y_getO C fl_X7_16 hw (ock_7 SB) rfl e7 o7 dX7_bridge_24 ?_
        refine y_getA C fl_X7_80 hw (oc_of SB o7) rfl (o := 1) rfl dX7_bridge_27 ?_
        refine lv_iload_n C.1.1 C.1.2.1 dX7_bridge_30 rfl (lv_at hl 1 rfl) ?_
        obtain ⟨b9, h⟩ := h
        obtain ⟨x_9, e9⟩ : ∃ z : Int, z = x_7 + 6 + 6 * x1 := ⟨_, rfl⟩
        have h := h x_9 e9
        have o9 : isO 6 x_9 := isO_ty o7 b9 e9
        refine y_tyO C hw o7 xt1 b9 e9 dX7_bridge_31 ?_
        refine lv_astore (lv' := [(4, .ref (G.2.2 (x_9).toNat)), (0, .ref (G.2.2 0)), (1, .int xv1), (2, .int xv2), (3, .int xv3)]) C.1.1 C.1.2.1 dX7_bridge_32 hl (by decide) rfl (fun ls hl => ?_)
        refine lv_iload_n C.1.1 C.1.2.1 dX7_bridge_34 rfl (lv_at hl 3 rfl) ?_
        refine y_if_lt C xt2 dX7_bridge_35 (tgt := 47) (by decide) (fun c10 => ?_) (fun c10 => ?_)
        · have h := h.1 c10
          refine y_bipush C dX7_bridge_47 ⟨by decide, by decide⟩ (fun v11 t11 => ?_)
          exact y_iret C hw hS t11 ⟨h, rfl⟩ dX7_bridge_49
        · have h := h.2 c10
          refine lv_iload_n C.1.1 C.1.2.1 dX7_bridge_38 rfl (lv_at hl 3 rfl) ?_
          refine lv_aload C.1.1 C.1.2.1 dX7_bridge_39 (lv_at hl 0 rfl) ?_
          refine y_getI C fl_X7_104 hw (oc_of SB o9) rfl dX7_bridge_41 (fun v12 t12 => ?_)
          refine y_icmp_lt C xt2 t12 dX7_bridge_44 (tgt := 50) (by decide) (fun c13 => ?_) (fun c13 => ?_)
          · have h := h.1 c13
            refine lv_aload C.1.1 C.1.2.1 dX7_bridge_50 (lv_at hl 0 rfl) ?_
            refine y_getI C fl_X7_166 hw (oc_of SB o9) rfl dX7_bridge_52 (fun v14 t14 => ?_)
            refine lv_iload_n C.1.1 C.1.2.1 dX7_bridge_55 rfl (lv_at hl 3 rfl) ?_
            refine y_iadd C t14 xt2 dX7_bridge_56 (fun v15 t15 => ?_)
            obtain ⟨x_16, e16⟩ : ∃ z : Int, z = w32 (S x_9 18 + x2) := ⟨_, rfl⟩
            have h := h x_16 e16
            have t16 := t15.trans e16.symm
            refine lv_istore (lv' := [(5, .int v15), (4, .ref (G.2.2 (x_9).toNat)), (0, .ref (G.2.2 0)), (1, .int xv1), (2, .int xv2), (3, .int xv3)]) C.1.1 C.1.2.1 dX7_bridge_57 hl (by decide) rfl (fun ls hl => ?_)
            refine lv_iload_n C.1.1 C.1.2.1 dX7_bridge_59 rfl (lv_at hl 5 rfl) ?_
            refine y_if_ne C xt3 dX7_bridge_60 (tgt := 74) (by decide) (fun c17 => ?_) (fun c17 => ?_)
            · have h := h.1 c17
              refine lv_aload_n C.1.1 C.1.2.1 dX7_bridge_74 rfl (lv_at hl 2 rfl) ?_
              obtain ⟨x_18, e18⟩ : ∃ z : Int, z = S 0 4 := ⟨_, rfl⟩
              obtain ⟨o18, h⟩ := h x_18 e18
              refine y_getO C fl_X7_16 hw (ock_7 SB) rfl e18 o18 dX7_bridge_75 ?_
              refine y_getA C fl_X7_172 hw (oc_of SB o18) rfl (o := 5) rfl dX7_bridge_78 ?_
              refine lv_iload C.1.1 C.1.2.1 dX7_bridge_81 (lv_at hl 0 rfl) ?_
              obtain ⟨b20, h⟩ := h
              refine y_iald C hw (ac_2_6 SB o18) t16 b20 dX7_bridge_83 (fun v20 t20 => ?_)
              obtain ⟨x_21, e21⟩ : ∃ z : Int, z = S (x_18 + 5) x_16 := ⟨_, rfl⟩
              have h := h x_21 e21
              have t21 := t20.trans e21.symm
              refine lv_istore (lv' := [(6, .int v20), (5, .int v15), (4, .ref (G.2.2 (x_9).toNat)), (0, .ref (G.2.2 0)), (1, .int xv1), (2, .int xv2), (3, .int xv3)]) C.1.1 C.1.2.1 dX7_bridge_84 hl (by decide) rfl (fun ls hl => ?_)
              refine lv_iload_n C.1.1 C.1.2.1 dX7_bridge_86 rfl (lv_at hl 6 rfl) ?_
              refine y_iconst C dX7_bridge_87 ⟨by decide, by decide⟩ (fun v22 t22 => ?_)
              refine y_icmp_ne C xt3 t22 dX7_bridge_88 (tgt := 96) (by decide) (fun c23 => ?_) (fun c23 => ?_)
              · have h := h.1 c23
                refine lv_aload_n C.1.1 C.1.2.1 dX7_bridge_96 rfl (lv_at hl 3 rfl) ?_
                obtain ⟨x_24, e24⟩ : ∃ z : Int, z = S 0 4 := ⟨_, rfl⟩
                obtain ⟨o24, h⟩ := h x_24 e24
                refine y_getO C fl_X7_16 hw (ock_7 SB) rfl e24 o24 dX7_bridge_97 ?_
                refine y_getA C fl_X7_131 hw (oc_of SB o24) rfl (o := 2) rfl dX7_bridge_100 ?_
                refine lv_iload C.1.1 C.1.2.1 dX7_bridge_103 (lv_at hl 0 rfl) ?_
                obtain ⟨b26, h⟩ := h
                obtain ⟨x_26, e26⟩ : ∃ z : Int, z = x_24 + 150 + 3 * x_21 := ⟨_, rfl⟩
                have h := h x_26 e26
                have o26 : isO 3 x_26 := isO_mb o24 b26 e26
                refine y_mbO C hw o24 t21 b26 e26 dX7_bridge_105 ?_
                refine y_getA C fl_X7_156 hw (oc_of SB o26) rfl (o := 2) rfl dX7_bridge_106 ?_
                refine lv_iload_n C.1.1 C.1.2.1 dX7_bridge_109 rfl (lv_at hl 6 rfl) ?_
                refine y_iconst C dX7_bridge_110 ⟨by decide, by decide⟩ (fun v28 t28 => ?_)
                refine y_isub C xt3 t28 dX7_bridge_111 (fun v29 t29 => ?_)
                obtain ⟨b30, h⟩ := h
                refine y_iald C hw (ac_3_6 SB o26) t29 b30 dX7_bridge_112 (fun v30 t30 => ?_)
                refine y_cSIp C (As := [.int v30]) (rest := []) ms_X7_159 (kX7_orNone l G SB S t30 h) ⟨(Nat.le_of_ble_eq_true rfl), (Nat.le_of_ble_eq_true rfl)⟩ hl.1 rfl rfl (Nat.le_of_ble_eq_true rfl) hw hS dX7_bridge_113 (fun v31 x_31 H locs t31 h hw hS => ?_)
                exact y_iret C hw hS t31 ⟨h, rfl⟩ dX7_bridge_116
              · have h := h.2 c23
                refine lv_iload C.1.1 C.1.2.1 dX7_bridge_91 (lv_at hl 0 rfl) ?_
                refine lv_goto (tgt := 116) C.1.1 C.1.2.1 dX7_bridge_93 (by decide) ?_
                exact y_iret C hw hS t21 ⟨h, rfl⟩ dX7_bridge_116
            · have h := h.2 c17
              refine lv_aload_n C.1.1 C.1.2.1 dX7_bridge_63 rfl (lv_at hl 2 rfl) ?_
              obtain ⟨x_32, e32⟩ : ∃ z : Int, z = S 0 4 := ⟨_, rfl⟩
              obtain ⟨o32, h⟩ := h x_32 e32
              refine y_getO C fl_X7_16 hw (ock_7 SB) rfl e32 o32 dX7_bridge_64 ?_
              refine y_getA C fl_X7_169 hw (oc_of SB o32) rfl (o := 4) rfl dX7_bridge_67 ?_
              refine lv_iload C.1.1 C.1.2.1 dX7_bridge_70 (lv_at hl 0 rfl) ?_
              obtain ⟨b34, h⟩ := h
              refine y_iald C hw (ac_2_5 SB o32) t16 b34 dX7_bridge_72 (fun v34 t34 => ?_)
              exact y_iret C hw hS t34 ⟨h, rfl⟩ dX7_bridge_73
          · have h := h.2 c13
            refine y_bipush C dX7_bridge_47 ⟨by decide, by decide⟩ (fun v35 t35 => ?_)
            exact y_iret C hw hS t35 ⟨h, rfl⟩ dX7_bridge_49
      · have h := h.2 c6
        refine y_bipush C dX7_bridge_20 ⟨by decide, by decide⟩ (fun v36 t36 => ?_)
        exact y_iret C hw hS t36 ⟨h, rfl⟩ dX7_bridge_22
  · have h := h.2 c2
    refine y_bipush C dX7_bridge_8 ⟨by decide, by decide⟩ (fun v37 t37 => ?_)
    exact y_iret C hw hS t37 ⟨h, rfl⟩ dX7_bridge_10
theorem kX7_bridge (l : Launch) (G : GG) (SB S : St) {xv1 : Int32} {x1 : Int} (xt1 : xv1.toInt = x1) {xv2 : Int32} {x2 : Int} (xt2 : xv2.toInt = x2) {xv3 : Int32} {x3 : Int} (xt3 : xv3.toInt = x3) {k : Int → Prop} (h : wX7_bridge S x1 x2 x3 k) : CnI l yX7_bridge cX7_bridge 7 (some .int) 1 21 G (injC SB) [.ref (G.2.2 0), .int xv1, .int xv2, .int xv3] S (fun r u => k r ∧ u = S) :=
  cn_body (by decide +kernel) (Nat.le_of_ble_eq_true rfl) (fun p e s m args below meth c ls C hw hl => uX7_bridge_0 C hw va_S.rf xt1 xt2 xt3 (lv_sub hl [0, 1, 2, 3] rfl) h)
set_option maxHeartbeats 4000000 in
set_option maxRecDepth 10000 in
theorem uX7_same_44 {p : Program} {l : Launch} {e : Env} {s : State} {m : MethodId} {args : Array Value} {below : List Frame} {meth : Method} {c : Code} {G : GG} {SB : St} (C : Cx p s m args meth c G RX7 cX7_same 4 (some .int)) {S : St} {H : Heap} {locs : List Loc} {ls : Array Slot}  {k : Int → Prop} (hw : Wd G ((injC SB) S) H) (hS : va_S (AG G) s.heap H locs) {sv0 : Int32} {s0 : Int} (st0 : sv0.toInt = s0) (hl : lv_has ls 4 [])  (h : wX7_same_44 S s0 k) : W p l e (rmF 1 22) s m args below meth c H locs 0 0 (MQ below (QcI G (injC SB) (fun r u => k r ∧ u = S)) args s 0 0 (AG G)) (F0 m 44 ls [.int sv0]) := by
  refine y_cSIp C (As := [.int sv0]) (rest := []) ms_X7_124 (kX7_yes l G SB S st0 h) ⟨(Nat.le_of_ble_eq_true rfl), (Nat.le_of_ble_eq_true rfl)⟩ hl.1 rfl rfl (Nat.le_of_ble_eq_true rfl) hw hS dX7_same_44 (fun v1 x_1 H locs t1 h hw hS => ?_)
  exact y_iret C hw hS t1 ⟨h, rfl⟩ dX7_same_47
set_option maxHeartbeats 4000000 in
set_option maxRecDepth 10000 in
theorem uX7_same_0 {p : Program} {l : Launch} {e : Env} {s : State} {m : MethodId} {args : Array Value} {below : List Frame} {meth : Method} {c : Code} {G : GG} {SB : St} (C : Cx p s m args meth c G RX7 cX7_same 4 (some .int)) {S : St} {H : Heap} {locs : List Loc} {ls : Array Slot}  {k : Int → Prop} (hw : Wd G ((injC SB) S) H) (hS : va_S (AG G) s.heap H locs) {xv1 : Int32} {x1 : Int} (xt1 : xv1.toInt = x1) {xv2 : Int32} {x2 : Int} (xt2 : xv2.toInt = x2) {xv3 : Int32} {x3 : Int} (xt3 : xv3.toInt = x3) (hl : lv_has ls 4 [(0, .ref (G.2.2 0)), (1, .int xv1), (2, .int xv2), (3, .int xv3)])  (h : wX7_same_0 S x1 x2 x3 k) : W p l e (rmF 1 22) s m args below meth c H locs 0 0 (MQ below (QcI G (injC SB) (fun r u => k r ∧ u = S)) args s 0 0 (AG G)) (F0 m 0 ls []) := by
  refine lv_aload_n C.1.1 C.1.2.1 dX7_same_0 rfl (lv_at hl 0 rfl) ?_
  refine lv_iload_n C.1.1 C.1.2.1 dX7_same_1 rfl (lv_at hl 1 rfl) ?_
  refine y_cVIp C (As := [.int xv1]) (rest := []) ml_X7_76 (kX7_isType l G SB S xt1 h) (ock_7 SB) (T := TX7) (N := 9) rfl (by decide) ⟨(Nat.le_of_ble_eq_true rfl), (Nat.le_of_ble_eq_true rfl)⟩ hl.1 rfl rfl (Nat.le_of_ble_eq_true rfl) hw hS dX7_same_2 (fun v1 x_1 H locs t1 h hw hS => ?_)
  refine y_if_eq C t1 dX7_same_5 (tgt := 16) (by decide) (fun c2 => ?_) (fun c2 => ?_)
  · have h := h.1 c2
    refine y_bipush C dX7_same_16 ⟨by decide, by decide⟩ (fun v3 t3 => ?_)
    exact y_iret C hw hS t3 ⟨h, rfl⟩ dX7_same_18
  · have h := h.2 c2
    refine lv_aload_n C.1.1 C.1.2.1 dX7_same_8 rfl (lv_at hl 0 rfl) ?_
    refine lv_iload_n C.1.1 C.1.2.1 dX7_same_9 rfl (lv_at hl 2 rfl) ?_
    refine y_cVIp C (As := [.int xv2]) (rest := []) ml_X7_76 (kX7_isType l G SB S xt2 h) (ock_7 SB) (T := TX7) (N := 9) rfl (by decide) ⟨(Nat.le_of_ble_eq_true rfl), (Nat.le_of_ble_eq_true rfl)⟩ hl.1 rfl rfl (Nat.le_of_ble_eq_true rfl) hw hS dX7_same_10 (fun v4 x_4 H locs t4 h hw hS => ?_)
    refine y_if_ne C t4 dX7_same_13 (tgt := 19) (by decide) (fun c5 => ?_) (fun c5 => ?_)
    · have h := h.1 c5
      refine lv_iload_n C.1.1 C.1.2.1 dX7_same_19 rfl (lv_at hl 3 rfl) ?_
      refine y_if_eq C xt3 dX7_same_20 (tgt := 35) (by decide) (fun c6 => ?_) (fun c6 => ?_)
      · have h := h.1 c6
        refine lv_aload_n C.1.1 C.1.2.1 dX7_same_35 rfl (lv_at hl 0 rfl) ?_
        obtain ⟨x_7, e7⟩ : ∃ z : Int, z = S 0 4 := ⟨_, rfl⟩
        obtain ⟨o7, h⟩ := h x_7 e7
        refine y_getO C fl_X7_16 hw (ock_7 SB) rfl e7 o7 dX7_same_36 ?_
        refine lv_iload_n C.1.1 C.1.2.1 dX7_same_39 rfl (lv_at hl 1 rfl) ?_
        refine lv_iload_n C.1.1 C.1.2.1 dX7_same_40 rfl (lv_at hl 2 rfl) ?_
        refine y_cVIp C (As := [.int xv1, .int xv2]) (rest := []) ml_X7_178 (kX2_samePackage l G SB S o7 xt1 xt2 h) (oc_of SB o7) (T := TX2) (N := 9) rfl (by decide) ⟨(Nat.le_of_ble_eq_true rfl), (Nat.le_of_ble_eq_true rfl)⟩ hl.1 rfl rfl (Nat.le_of_ble_eq_true rfl) hw hS dX7_same_41 (fun v8 x_8 H locs t8 h hw hS => ?_)
        exact uX7_same_44 C hw hS t8 (lv_sub hl [] rfl)  h
      · have h := h.2 c6
        refine lv_aload_n C.1.1 C.1.2.1 dX7_same_23 rfl (lv_at hl 0 rfl) ?_
        obtain ⟨x_9, e9⟩ : ∃ z : Int, z = S 0 4 := ⟨_, rfl⟩
        obtain ⟨o9, h⟩ := h x_9 e9
        refine y_getO C fl_X7_16 hw (ock_7 SB) rfl e9 o9 dX7_same_24 ?_
        refine lv_iload_n C.1.1 C.1.2.1 dX7_same_27 rfl (lv_at hl 1 rfl) ?_
        refine lv_iload_n C.1.1 C.1.2.1 dX7_same_28 rfl (lv_at hl 2 rfl) ?_
        refine y_cVIp C (As := [.int xv1, .int xv2]) (rest := []) ml_X7_175 (kX2_sameNest l G SB S o9 xt1 xt2 h) (oc_of SB o9) (T := TX2) (N := 9) rfl (by decide) ⟨(Nat.le_of_ble_eq_true rfl), (Nat.le_of_ble_eq_true rfl)⟩ hl.1 rfl rfl (Nat.le_of_ble_eq_true rfl) hw hS dX7_same_29 (fun v10 x_10 H locs t10 h hw hS => ?_)
        refine lv_goto (tgt := 44) C.1.1 C.1.2.1 dX7_same_32 (by decide) ?_
        exact uX7_same_44 C hw hS t10 (lv_sub hl [] rfl)  h
    · have h := h.2 c5
      refine y_bipush C dX7_same_16 ⟨by decide, by decide⟩ (fun v11 t11 => ?_)
      exact y_iret C hw hS t11 ⟨h, rfl⟩ dX7_same_18
theorem kX7_same (l : Launch) (G : GG) (SB S : St) {xv1 : Int32} {x1 : Int} (xt1 : xv1.toInt = x1) {xv2 : Int32} {x2 : Int} (xt2 : xv2.toInt = x2) {xv3 : Int32} {x3 : Int} (xt3 : xv3.toInt = x3) {k : Int → Prop} (h : wX7_same S x1 x2 x3 k) : CnI l yX7_same cX7_same 4 (some .int) 1 22 G (injC SB) [.ref (G.2.2 0), .int xv1, .int xv2, .int xv3] S (fun r u => k r ∧ u = S) :=
  cn_body (by decide +kernel) (Nat.le_of_ble_eq_true rfl) (fun p e s m args below meth c ls C hw hl => uX7_same_0 C hw va_S.rf xt1 xt2 xt3 (lv_sub hl [0, 1, 2, 3] rfl) h)
set_option maxHeartbeats 4000000 in
set_option maxRecDepth 10000 in
theorem uX7_tell_0 {p : Program} {l : Launch} {e : Env} {s : State} {m : MethodId} {args : Array Value} {below : List Frame} {meth : Method} {c : Code} {G : GG} {SB : St} (C : Cx p s m args meth c G RX7 cX7_tell 2 (some .int)) {S : St} {H : Heap} {locs : List Loc} {ls : Array Slot}  {k : Int → Prop} (hw : Wd G ((injC SB) S) H) (hS : va_S (AG G) s.heap H locs) {xv1 : Int32} {x1 : Int} (xt1 : xv1.toInt = x1) (hl : lv_has ls 2 [(0, .ref (G.2.2 0)), (1, .int xv1)])  (h : wX7_tell_0 S x1 k) : W p l e (rmF 1 21) s m args below meth c H locs 0 0 (MQ below (QcI G (injC SB) (fun r u => k r ∧ u = S)) args s 0 0 (AG G)) (F0 m 0 ls []) := by
  refine lv_iload_n C.1.1 C.1.2.1 dX7_tell_0 rfl (lv_at hl 1 rfl) ?_
  refine y_sipush C dX7_tell_1 ⟨by decide, by decide⟩ (fun v1 t1 => ?_)
  refine y_icmp_ge C xt1 t1 dX7_tell_4 (tgt := 11) (by decide) (fun c2 => ?_) (fun c2 => ?_)
  · have h := h.1 c2
    refine y_sipush C dX7_tell_11 ⟨by decide, by decide⟩ (fun v3 t3 => ?_)
    refine lv_aload_n C.1.1 C.1.2.1 dX7_tell_14 rfl (lv_at hl 0 rfl) ?_
    obtain ⟨x_4, e4⟩ : ∃ z : Int, z = S 0 4 := ⟨_, rfl⟩
    obtain ⟨o4, h⟩ := h x_4 e4
    refine y_getO C fl_X7_16 hw (ock_7 SB) rfl e4 o4 dX7_tell_15 ?_
    refine lv_iload_n C.1.1 C.1.2.1 dX7_tell_18 rfl (lv_at hl 1 rfl) ?_
    refine y_cVIp C (As := [.int xv1]) (rest := [.int v3]) ml_X7_220 (kX2_behind l G SB S o4 xt1 h) (oc_of SB o4) (T := TX2) (N := 9) rfl (by decide) ⟨(Nat.le_of_ble_eq_true rfl), (Nat.le_of_ble_eq_true rfl)⟩ hl.1 rfl rfl (Nat.le_of_ble_eq_true rfl) hw hS dX7_tell_19 (fun v5 x_5 H locs t5 h hw hS => ?_)
    refine y_iadd C t3 t5 dX7_tell_22 (fun v6 t6 => ?_)
    exact y_iret C hw hS t6 ⟨h, rfl⟩ dX7_tell_23
  · have h := h.2 c2
    refine lv_iload_n C.1.1 C.1.2.1 dX7_tell_7 rfl (lv_at hl 1 rfl) ?_
    refine lv_goto (tgt := 23) C.1.1 C.1.2.1 dX7_tell_8 (by decide) ?_
    exact y_iret C hw hS xt1 ⟨h, rfl⟩ dX7_tell_23
theorem kX7_tell (l : Launch) (G : GG) (SB S : St) {xv1 : Int32} {x1 : Int} (xt1 : xv1.toInt = x1) {k : Int → Prop} (h : wX7_tell S x1 k) : CnI l yX7_tell cX7_tell 2 (some .int) 1 21 G (injC SB) [.ref (G.2.2 0), .int xv1] S (fun r u => k r ∧ u = S) :=
  cn_body (by decide +kernel) (Nat.le_of_ble_eq_true rfl) (fun p e s m args below meth c ls C hw hl => uX7_tell_0 C hw va_S.rf xt1 (lv_sub hl [0, 1] rfl) h)
set_option maxHeartbeats 4000000 in
set_option maxRecDepth 10000 in
theorem uX7_lookup_0 {p : Program} {l : Launch} {e : Env} {s : State} {m : MethodId} {args : Array Value} {below : List Frame} {meth : Method} {c : Code} {G : GG} {SB : St} (C : Cx p s m args meth c G RX7 cX7_lookup 3 (some .int)) {S : St} {H : Heap} {locs : List Loc} {ls : Array Slot}  {k : Int → St → Prop} (hw : Wd G ((injC SB) S) H) (hS : va_S (AG G) s.heap H locs) {xv1 : Int32} {x1 : Int} (xt1 : xv1.toInt = x1) {xv2 : Int32} {x2 : Int} (xt2 : xv2.toInt = x2) (hl : lv_has ls 3 [(0, .ref (G.2.2 0)), (1, .int xv1), (2, .int xv2)])  (h : wX7_lookup_0 S x1 x2 k) : W p l e (rmF 4 93) s m args below meth c H locs 0 0 (MQ below (QcI G (injC SB) k) args s 0 0 (AG G)) (F0 m 0 ls []) := by
  refine lv_aload_n C.1.1 C.1.2.1 dX7_lookup_0 rfl (lv_at hl 0 rfl) ?_
  refine lv_iload_n C.1.1 C.1.2.1 dX7_lookup_1 rfl (lv_at hl 1 rfl) ?_
  refine y_cVIp C (As := [.int xv1]) (rest := []) ml_X7_76 (kX7_isType l G SB S xt1 h) (ock_7 SB) (T := TX7) (N := 9) rfl (by decide) ⟨(Nat.le_of_ble_eq_true rfl), (Nat.le_of_ble_eq_true rfl)⟩ hl.1 rfl rfl (Nat.le_of_ble_eq_true rfl) hw hS dX7_lookup_2 (fun v1 x_1 H locs t1 h hw hS => ?_)
  refine y_if_eq C t1 dX7_lookup_5 (tgt := 16) (by decide) (fun c2 => ?_) (fun c2 => ?_)
  · have h := h.1 c2
    refine y_bipush C dX7_lookup_16 ⟨by decide, by decide⟩ (fun v3 t3 => ?_)
    exact y_iret C hw hS t3 h dX7_lookup_18
  · have h := h.2 c2
    refine lv_aload_n C.1.1 C.1.2.1 dX7_lookup_8 rfl (lv_at hl 0 rfl) ?_
    refine lv_iload_n C.1.1 C.1.2.1 dX7_lookup_9 rfl (lv_at hl 2 rfl) ?_
    refine y_cVIp C (As := [.int xv2]) (rest := []) ml_X7_128 (kX7_isMember l G SB S xt2 h) (ock_7 SB) (T := TX7) (N := 9) rfl (by decide) ⟨(Nat.le_of_ble_eq_true rfl), (Nat.le_of_ble_eq_true rfl)⟩ hl.1 rfl rfl (Nat.le_of_ble_eq_true rfl) hw hS dX7_lookup_10 (fun v4 x_4 H locs t4 h hw hS => ?_)
    refine y_if_ne C t4 dX7_lookup_13 (tgt := 19) (by decide) (fun c5 => ?_) (fun c5 => ?_)
    · have h := h.1 c5
      refine lv_aload_n C.1.1 C.1.2.1 dX7_lookup_19 rfl (lv_at hl 0 rfl) ?_
      refine y_getS C fl_X7_44 hw (ock_7 SB) rfl (o := 1037) rfl dX7_lookup_20 ?_
      refine lv_aload_n C.1.1 C.1.2.1 dX7_lookup_23 rfl (lv_at hl 0 rfl) ?_
      obtain ⟨x_7, e7⟩ : ∃ z : Int, z = S 0 4 := ⟨_, rfl⟩
      obtain ⟨o7, h⟩ := h x_7 e7
      refine y_getO C fl_X7_16 hw (ock_7 SB) rfl e7 o7 dX7_lookup_24 ?_
      refine y_cVV C (As := [.ref (G.2.2 (x_7).toNat)]) (rest := []) ml_X7_181 (kX1_open l G SB S o7 h) (ock_1 SB) (T := TX1) (N := 8) rfl (by decide) ⟨(Nat.le_of_ble_eq_true rfl), (Nat.le_of_ble_eq_true rfl)⟩ hl.1 rfl rfl (Nat.le_of_ble_eq_true rfl) hw hS dX7_lookup_27 (fun S_8 H locs h hw hS => ?_)
      refine lv_aload_n C.1.1 C.1.2.1 dX7_lookup_30 rfl (lv_at hl 0 rfl) ?_
      refine lv_aload_n C.1.1 C.1.2.1 dX7_lookup_31 rfl (lv_at hl 0 rfl) ?_
      refine y_getS C fl_X7_44 hw (ock_7 SB) rfl (o := 1037) rfl dX7_lookup_32 ?_
      refine lv_iload_n C.1.1 C.1.2.1 dX7_lookup_35 rfl (lv_at hl 1 rfl) ?_
      refine lv_aload_n C.1.1 C.1.2.1 dX7_lookup_36 rfl (lv_at hl 0 rfl) ?_
      obtain ⟨x_10, e10⟩ : ∃ z : Int, z = S_8 0 4 := ⟨_, rfl⟩
      obtain ⟨o10, h⟩ := h x_10 e10
      refine y_getO C fl_X7_16 hw (ock_7 SB) rfl e10 o10 dX7_lookup_37 ?_
      refine y_getA C fl_X7_131 hw (oc_of SB o10) rfl (o := 2) rfl dX7_lookup_40 ?_
      refine lv_iload_n C.1.1 C.1.2.1 dX7_lookup_43 rfl (lv_at hl 2 rfl) ?_
      obtain ⟨b12, h⟩ := h
      obtain ⟨x_12, e12⟩ : ∃ z : Int, z = x_10 + 150 + 3 * x2 := ⟨_, rfl⟩
      have h := h x_12 e12
      have o12 : isO 3 x_12 := isO_mb o10 b12 e12
      refine y_mbO C hw o10 xt2 b12 e12 dX7_lookup_44 ?_
      refine y_getI C fl_X7_184 hw (oc_of SB o12) rfl dX7_lookup_45 (fun v13 t13 => ?_)
      refine y_cVI C (As := [.int xv1, .int v13]) (rest := [.ref (G.2.2 0)]) ml_X7_187 (kX1_find l G SB S_8 xt1 t13 h) (ock_1 SB) (T := TX1) (N := 8) rfl (by decide) ⟨(Nat.le_of_ble_eq_true rfl), (Nat.le_of_ble_eq_true rfl)⟩ hl.1 rfl rfl (Nat.le_of_ble_eq_true rfl) hw hS dX7_lookup_48 (fun v14 x_14 S_14 H locs t14 h hw hS => ?_)
      refine y_cVIp C (As := [.int v14]) (rest := []) ml_X7_191 (kX7_tell l G SB S_14 t14 h) (ock_7 SB) (T := TX7) (N := 9) rfl (by decide) ⟨(Nat.le_of_ble_eq_true rfl), (Nat.le_of_ble_eq_true rfl)⟩ hl.1 rfl rfl (Nat.le_of_ble_eq_true rfl) hw hS dX7_lookup_51 (fun v15 x_15 H locs t15 h hw hS => ?_)
      exact y_iret C hw hS t15 h dX7_lookup_54
    · have h := h.2 c5
      refine y_bipush C dX7_lookup_16 ⟨by decide, by decide⟩ (fun v16 t16 => ?_)
      exact y_iret C hw hS t16 h dX7_lookup_18
theorem kX7_lookup (l : Launch) (G : GG) (SB S : St) {xv1 : Int32} {x1 : Int} (xt1 : xv1.toInt = x1) {xv2 : Int32} {x2 : Int} (xt2 : xv2.toInt = x2) {k : Int → St → Prop} (h : wX7_lookup S x1 x2 k) : CnI l yX7_lookup cX7_lookup 3 (some .int) 4 93 G (injC SB) [.ref (G.2.2 0), .int xv1, .int xv2] S k :=
  cn_body (by decide +kernel) (Nat.le_of_ble_eq_true rfl) (fun p e s m args below meth c ls C hw hl => uX7_lookup_0 C hw va_S.rf xt1 xt2 (lv_sub hl [0, 1, 2] rfl) h)
set_option maxHeartbeats 4000000 in
set_option maxRecDepth 10000 in
theorem uX7_specific_0 {p : Program} {l : Launch} {e : Env} {s : State} {m : MethodId} {args : Array Value} {below : List Frame} {meth : Method} {c : Code} {G : GG} {SB : St} (C : Cx p s m args meth c G RX7 cX7_specific 5 (some .int)) {S : St} {H : Heap} {locs : List Loc} {ls : Array Slot}  {k : Int → St → Prop} (hw : Wd G ((injC SB) S) H) (hS : va_S (AG G) s.heap H locs) {xv1 : Int32} {x1 : Int} (xt1 : xv1.toInt = x1) {xv2 : Int32} {x2 : Int} (xt2 : xv2.toInt = x2) {xv3 : Int32} {x3 : Int} (xt3 : xv3.toInt = x3) (hl : lv_has ls 5 [(0, .ref (G.2.2 0)), (1, .int xv1), (2, .int xv2), (3, .int xv3)])  (h : wX7_specific_0 S x1 x2 x3 k) : W p l e (rmF 3 77) s m args below meth c H locs 0 0 (MQ below (QcI G (injC SB) k) args s 0 0 (AG G)) (F0 m 0 ls []) := by
  refine lv_aload_n C.1.1 C.1.2.1 dX7_specific_0 rfl (lv_at hl 0 rfl) ?_
  refine lv_iload_n C.1.1 C.1.2.1 dX7_specific_1 rfl (lv_at hl 1 rfl) ?_
  refine y_cVIp C (As := [.int xv1]) (rest := []) ml_X7_76 (kX7_isType l G SB S xt1 h) (ock_7 SB) (T := TX7) (N := 9) rfl (by decide) ⟨(Nat.le_of_ble_eq_true rfl), (Nat.le_of_ble_eq_true rfl)⟩ hl.1 rfl rfl (Nat.le_of_ble_eq_true rfl) hw hS dX7_specific_2 (fun v1 x_1 H locs t1 h hw hS => ?_)
  refine y_if_eq C t1 dX7_specific_5 (tgt := 16) (by decide) (fun c2 => ?_) (fun c2 => ?_)
  · have h := h.1 c2
    refine y_bipush C dX7_specific_16 ⟨by decide, by decide⟩ (fun v3 t3 => ?_)
    exact y_iret C hw hS t3 h dX7_specific_18
  · have h := h.2 c2
    refine lv_aload_n C.1.1 C.1.2.1 dX7_specific_8 rfl (lv_at hl 0 rfl) ?_
    refine lv_iload_n C.1.1 C.1.2.1 dX7_specific_9 rfl (lv_at hl 2 rfl) ?_
    refine y_cVIp C (As := [.int xv2]) (rest := []) ml_X7_128 (kX7_isMember l G SB S xt2 h) (ock_7 SB) (T := TX7) (N := 9) rfl (by decide) ⟨(Nat.le_of_ble_eq_true rfl), (Nat.le_of_ble_eq_true rfl)⟩ hl.1 rfl rfl (Nat.le_of_ble_eq_true rfl) hw hS dX7_specific_10 (fun v4 x_4 H locs t4 h hw hS => ?_)
    refine y_if_ne C t4 dX7_specific_13 (tgt := 19) (by decide) (fun c5 => ?_) (fun c5 => ?_)
    · have h := h.1 c5
      refine lv_aload_n C.1.1 C.1.2.1 dX7_specific_19 rfl (lv_at hl 0 rfl) ?_
      refine y_getS C fl_X7_44 hw (ock_7 SB) rfl (o := 1037) rfl dX7_specific_20 ?_
      refine lv_aload_n C.1.1 C.1.2.1 dX7_specific_23 rfl (lv_at hl 0 rfl) ?_
      obtain ⟨x_7, e7⟩ : ∃ z : Int, z = S 0 4 := ⟨_, rfl⟩
      obtain ⟨o7, h⟩ := h x_7 e7
      refine y_getO C fl_X7_16 hw (ock_7 SB) rfl e7 o7 dX7_specific_24 ?_
      refine y_cVV C (As := [.ref (G.2.2 (x_7).toNat)]) (rest := []) ml_X7_181 (kX1_open l G SB S o7 h) (ock_1 SB) (T := TX1) (N := 8) rfl (by decide) ⟨(Nat.le_of_ble_eq_true rfl), (Nat.le_of_ble_eq_true rfl)⟩ hl.1 rfl rfl (Nat.le_of_ble_eq_true rfl) hw hS dX7_specific_27 (fun S_8 H locs h hw hS => ?_)
      refine lv_aload_n C.1.1 C.1.2.1 dX7_specific_30 rfl (lv_at hl 0 rfl) ?_
      refine y_getS C fl_X7_44 hw (ock_7 SB) rfl (o := 1037) rfl dX7_specific_31 ?_
      refine lv_iload_n C.1.1 C.1.2.1 dX7_specific_34 rfl (lv_at hl 1 rfl) ?_
      refine lv_aload_n C.1.1 C.1.2.1 dX7_specific_35 rfl (lv_at hl 0 rfl) ?_
      obtain ⟨x_10, e10⟩ : ∃ z : Int, z = S_8 0 4 := ⟨_, rfl⟩
      obtain ⟨o10, h⟩ := h x_10 e10
      refine y_getO C fl_X7_16 hw (ock_7 SB) rfl e10 o10 dX7_specific_36 ?_
      refine y_getA C fl_X7_131 hw (oc_of SB o10) rfl (o := 2) rfl dX7_specific_39 ?_
      refine lv_iload_n C.1.1 C.1.2.1 dX7_specific_42 rfl (lv_at hl 2 rfl) ?_
      obtain ⟨b12, h⟩ := h
      obtain ⟨x_12, e12⟩ : ∃ z : Int, z = x_10 + 150 + 3 * x2 := ⟨_, rfl⟩
      have h := h x_12 e12
      have o12 : isO 3 x_12 := isO_mb o10 b12 e12
      refine y_mbO C hw o10 xt2 b12 e12 dX7_specific_43 ?_
      refine y_getI C fl_X7_184 hw (oc_of SB o12) rfl dX7_specific_44 (fun v13 t13 => ?_)
      refine lv_iload_n C.1.1 C.1.2.1 dX7_specific_47 rfl (lv_at hl 3 rfl) ?_
      refine y_cVI C (As := [.int xv1, .int v13, .int xv3]) (rest := []) ml_X7_194 (kX1_specificAt l G SB S_8 xt1 t13 xt3 h) (ock_1 SB) (T := TX1) (N := 8) rfl (by decide) ⟨(Nat.le_of_ble_eq_true rfl), (Nat.le_of_ble_eq_true rfl)⟩ hl.1 rfl rfl (Nat.le_of_ble_eq_true rfl) hw hS dX7_specific_48 (fun v14 x_14 S_14 H locs t14 h hw hS => ?_)
      refine lv_istore (lv' := [(4, .int v14), (0, .ref (G.2.2 0)), (1, .int xv1), (2, .int xv2), (3, .int xv3)]) C.1.1 C.1.2.1 dX7_specific_51 hl (by decide) rfl (fun ls hl => ?_)
      refine lv_iload C.1.1 C.1.2.1 dX7_specific_53 (lv_at hl 0 rfl) ?_
      refine y_iconst C dX7_specific_55 ⟨by decide, by decide⟩ (fun v15 t15 => ?_)
      refine y_icmp_ne C t14 t15 dX7_specific_56 (tgt := 64) (by decide) (fun c16 => ?_) (fun c16 => ?_)
      · have h := h.1 c16
        refine lv_aload_n C.1.1 C.1.2.1 dX7_specific_64 rfl (lv_at hl 1 rfl) ?_
        refine lv_iload C.1.1 C.1.2.1 dX7_specific_65 (lv_at hl 0 rfl) ?_
        refine y_cVIp C (As := [.int v14]) (rest := []) ml_X7_191 (kX7_tell l G SB S_14 t14 h) (ock_7 SB) (T := TX7) (N := 9) rfl (by decide) ⟨(Nat.le_of_ble_eq_true rfl), (Nat.le_of_ble_eq_true rfl)⟩ hl.1 rfl rfl (Nat.le_of_ble_eq_true rfl) hw hS dX7_specific_67 (fun v17 x_17 H locs t17 h hw hS => ?_)
        exact y_iret C hw hS t17 h dX7_specific_70
      · have h := h.2 c16
        refine y_bipush C dX7_specific_59 ⟨by decide, by decide⟩ (fun v18 t18 => ?_)
        refine lv_goto (tgt := 70) C.1.1 C.1.2.1 dX7_specific_61 (by decide) ?_
        exact y_iret C hw hS t18 h dX7_specific_70
    · have h := h.2 c5
      refine y_bipush C dX7_specific_16 ⟨by decide, by decide⟩ (fun v19 t19 => ?_)
      exact y_iret C hw hS t19 h dX7_specific_18
theorem kX7_specific (l : Launch) (G : GG) (SB S : St) {xv1 : Int32} {x1 : Int} (xt1 : xv1.toInt = x1) {xv2 : Int32} {x2 : Int} (xt2 : xv2.toInt = x2) {xv3 : Int32} {x3 : Int} (xt3 : xv3.toInt = x3) {k : Int → St → Prop} (h : wX7_specific S x1 x2 x3 k) : CnI l yX7_specific cX7_specific 5 (some .int) 3 77 G (injC SB) [.ref (G.2.2 0), .int xv1, .int xv2, .int xv3] S k :=
  cn_body (by decide +kernel) (Nat.le_of_ble_eq_true rfl) (fun p e s m args below meth c ls C hw hl => uX7_specific_0 C hw va_S.rf xt1 xt2 xt3 (lv_sub hl [0, 1, 2, 3] rfl) h)
set_option maxHeartbeats 4000000 in
set_option maxRecDepth 10000 in
theorem uX7_may_0 {p : Program} {l : Launch} {e : Env} {s : State} {m : MethodId} {args : Array Value} {below : List Frame} {meth : Method} {c : Code} {G : GG} {SB : St} (C : Cx p s m args meth c G RX7 cX7_may 6 (some .int)) {S : St} {H : Heap} {locs : List Loc} {ls : Array Slot}  {k : Int → St → Prop} (hw : Wd G ((injC SB) S) H) (hS : va_S (AG G) s.heap H locs) {xv1 : Int32} {x1 : Int} (xt1 : xv1.toInt = x1) {xv2 : Int32} {x2 : Int} (xt2 : xv2.toInt = x2) {xv3 : Int32} {x3 : Int} (xt3 : xv3.toInt = x3) {xv4 : Int32} {x4 : Int} (xt4 : xv4.toInt = x4) (hl : lv_has ls 6 [(0, .ref (G.2.2 0)), (1, .int xv1), (2, .int xv2), (3, .int xv3), (4, .int xv4)])  (h : wX7_may_0 S x1 x2 x3 x4 k) : W p l e (rmF 4 93) s m args below meth c H locs 0 0 (MQ below (QcI G (injC SB) k) args s 0 0 (AG G)) (F0 m 0 ls []) := by
  refine lv_aload_n C.1.1 C.1.2.1 dX7_may_0 rfl (lv_at hl 0 rfl) ?_
  refine lv_iload_n C.1.1 C.1.2.1 dX7_may_1 rfl (lv_at hl 1 rfl) ?_
  refine y_cVIp C (As := [.int xv1]) (rest := []) ml_X7_76 (kX7_isType l G SB S xt1 h) (ock_7 SB) (T := TX7) (N := 9) rfl (by decide) ⟨(Nat.le_of_ble_eq_true rfl), (Nat.le_of_ble_eq_true rfl)⟩ hl.1 rfl rfl (Nat.le_of_ble_eq_true rfl) hw hS dX7_may_2 (fun v1 x_1 H locs t1 h hw hS => ?_)
  refine y_if_eq C t1 dX7_may_5 (tgt := 33) (by decide) (fun c2 => ?_) (fun c2 => ?_)
  · have h := h.1 c2
    refine y_bipush C dX7_may_33 ⟨by decide, by decide⟩ (fun v3 t3 => ?_)
    exact y_iret C hw hS t3 h dX7_may_35
  · have h := h.2 c2
    refine lv_aload_n C.1.1 C.1.2.1 dX7_may_8 rfl (lv_at hl 0 rfl) ?_
    refine lv_iload_n C.1.1 C.1.2.1 dX7_may_9 rfl (lv_at hl 2 rfl) ?_
    refine y_cVIp C (As := [.int xv2]) (rest := []) ml_X7_76 (kX7_isType l G SB S xt2 h) (ock_7 SB) (T := TX7) (N := 9) rfl (by decide) ⟨(Nat.le_of_ble_eq_true rfl), (Nat.le_of_ble_eq_true rfl)⟩ hl.1 rfl rfl (Nat.le_of_ble_eq_true rfl) hw hS dX7_may_10 (fun v4 x_4 H locs t4 h hw hS => ?_)
    refine y_if_eq C t4 dX7_may_13 (tgt := 33) (by decide) (fun c5 => ?_) (fun c5 => ?_)
    · have h := h.1 c5
      refine y_bipush C dX7_may_33 ⟨by decide, by decide⟩ (fun v6 t6 => ?_)
      exact y_iret C hw hS t6 h dX7_may_35
    · have h := h.2 c5
      refine lv_aload_n C.1.1 C.1.2.1 dX7_may_16 rfl (lv_at hl 0 rfl) ?_
      refine lv_iload_n C.1.1 C.1.2.1 dX7_may_17 rfl (lv_at hl 3 rfl) ?_
      refine y_cVIp C (As := [.int xv3]) (rest := []) ml_X7_128 (kX7_isMember l G SB S xt3 h) (ock_7 SB) (T := TX7) (N := 9) rfl (by decide) ⟨(Nat.le_of_ble_eq_true rfl), (Nat.le_of_ble_eq_true rfl)⟩ hl.1 rfl rfl (Nat.le_of_ble_eq_true rfl) hw hS dX7_may_18 (fun v7 x_7 H locs t7 h hw hS => ?_)
      refine y_if_eq C t7 dX7_may_21 (tgt := 33) (by decide) (fun c8 => ?_) (fun c8 => ?_)
      · have h := h.1 c8
        refine y_bipush C dX7_may_33 ⟨by decide, by decide⟩ (fun v9 t9 => ?_)
        exact y_iret C hw hS t9 h dX7_may_35
      · have h := h.2 c8
        refine lv_aload_n C.1.1 C.1.2.1 dX7_may_24 rfl (lv_at hl 0 rfl) ?_
        refine lv_iload C.1.1 C.1.2.1 dX7_may_25 (lv_at hl 4 rfl) ?_
        refine y_cVIp C (As := [.int xv4]) (rest := []) ml_X7_76 (kX7_isType l G SB S xt4 h) (ock_7 SB) (T := TX7) (N := 9) rfl (by decide) ⟨(Nat.le_of_ble_eq_true rfl), (Nat.le_of_ble_eq_true rfl)⟩ hl.1 rfl rfl (Nat.le_of_ble_eq_true rfl) hw hS dX7_may_27 (fun v10 x_10 H locs t10 h hw hS => ?_)
        refine y_if_ne C t10 dX7_may_30 (tgt := 36) (by decide) (fun c11 => ?_) (fun c11 => ?_)
        · have h := h.1 c11
          refine lv_aload_n C.1.1 C.1.2.1 dX7_may_36 rfl (lv_at hl 0 rfl) ?_
          refine y_getS C fl_X7_44 hw (ock_7 SB) rfl (o := 1037) rfl dX7_may_37 ?_
          refine lv_aload_n C.1.1 C.1.2.1 dX7_may_40 rfl (lv_at hl 0 rfl) ?_
          obtain ⟨x_13, e13⟩ : ∃ z : Int, z = S 0 4 := ⟨_, rfl⟩
          obtain ⟨o13, h⟩ := h x_13 e13
          refine y_getO C fl_X7_16 hw (ock_7 SB) rfl e13 o13 dX7_may_41 ?_
          refine y_cVV C (As := [.ref (G.2.2 (x_13).toNat)]) (rest := []) ml_X7_181 (kX1_open l G SB S o13 h) (ock_1 SB) (T := TX1) (N := 8) rfl (by decide) ⟨(Nat.le_of_ble_eq_true rfl), (Nat.le_of_ble_eq_true rfl)⟩ hl.1 rfl rfl (Nat.le_of_ble_eq_true rfl) hw hS dX7_may_44 (fun S_14 H locs h hw hS => ?_)
          refine lv_aload_n C.1.1 C.1.2.1 dX7_may_47 rfl (lv_at hl 0 rfl) ?_
          refine y_getS C fl_X7_44 hw (ock_7 SB) rfl (o := 1037) rfl dX7_may_48 ?_
          refine lv_iload_n C.1.1 C.1.2.1 dX7_may_51 rfl (lv_at hl 2 rfl) ?_
          refine lv_aload_n C.1.1 C.1.2.1 dX7_may_52 rfl (lv_at hl 0 rfl) ?_
          obtain ⟨x_16, e16⟩ : ∃ z : Int, z = S_14 0 4 := ⟨_, rfl⟩
          obtain ⟨o16, h⟩ := h x_16 e16
          refine y_getO C fl_X7_16 hw (ock_7 SB) rfl e16 o16 dX7_may_53 ?_
          refine y_getA C fl_X7_131 hw (oc_of SB o16) rfl (o := 2) rfl dX7_may_56 ?_
          refine lv_iload_n C.1.1 C.1.2.1 dX7_may_59 rfl (lv_at hl 3 rfl) ?_
          obtain ⟨b18, h⟩ := h
          obtain ⟨x_18, e18⟩ : ∃ z : Int, z = x_16 + 150 + 3 * x3 := ⟨_, rfl⟩
          have h := h x_18 e18
          have o18 : isO 3 x_18 := isO_mb o16 b18 e18
          refine y_mbO C hw o16 xt3 b18 e18 dX7_may_60 ?_
          refine y_getI C fl_X7_184 hw (oc_of SB o18) rfl dX7_may_61 (fun v19 t19 => ?_)
          refine y_cVI C (As := [.int xv2, .int v19]) (rest := []) ml_X7_187 (kX1_find l G SB S_14 xt2 t19 h) (ock_1 SB) (T := TX1) (N := 8) rfl (by decide) ⟨(Nat.le_of_ble_eq_true rfl), (Nat.le_of_ble_eq_true rfl)⟩ hl.1 rfl rfl (Nat.le_of_ble_eq_true rfl) hw hS dX7_may_64 (fun v20 x_20 S_20 H locs t20 h hw hS => ?_)
          refine lv_istore (lv' := [(5, .int v20), (0, .ref (G.2.2 0)), (1, .int xv1), (2, .int xv2), (3, .int xv3), (4, .int xv4)]) C.1.1 C.1.2.1 dX7_may_67 hl (by decide) rfl (fun ls hl => ?_)
          refine lv_iload C.1.1 C.1.2.1 dX7_may_69 (lv_at hl 0 rfl) ?_
          refine y_iconst C dX7_may_71 ⟨by decide, by decide⟩ (fun v21 t21 => ?_)
          refine y_icmp_ne C t20 t21 dX7_may_72 (tgt := 79) (by decide) (fun c22 => ?_) (fun c22 => ?_)
          · have h := h.1 c22
            refine lv_aload_n C.1.1 C.1.2.1 dX7_may_79 rfl (lv_at hl 1 rfl) ?_
            refine y_getS C fl_X7_44 hw (ock_7 SB) rfl (o := 1037) rfl dX7_may_80 ?_
            refine lv_iload_n C.1.1 C.1.2.1 dX7_may_83 rfl (lv_at hl 2 rfl) ?_
            refine lv_iload_n C.1.1 C.1.2.1 dX7_may_84 rfl (lv_at hl 3 rfl) ?_
            refine lv_iload C.1.1 C.1.2.1 dX7_may_85 (lv_at hl 0 rfl) ?_
            refine lv_iload C.1.1 C.1.2.1 dX7_may_87 (lv_at hl 5 rfl) ?_
            refine y_cVIp C (As := [.int xv1, .int xv2, .int v20, .int xv4]) (rest := []) ml_X7_198 (kX1_isGranted l G SB S_20 xt1 xt2 t20 xt4 h) (ock_1 SB) (T := TX1) (N := 8) rfl (by decide) ⟨(Nat.le_of_ble_eq_true rfl), (Nat.le_of_ble_eq_true rfl)⟩ hl.1 rfl rfl (Nat.le_of_ble_eq_true rfl) hw hS dX7_may_89 (fun v24 x_24 H locs t24 h hw hS => ?_)
            refine y_cSIp C (As := [.int v24]) (rest := []) ms_X7_124 (kX7_yes l G SB S_20 t24 h) ⟨(Nat.le_of_ble_eq_true rfl), (Nat.le_of_ble_eq_true rfl)⟩ hl.1 rfl rfl (Nat.le_of_ble_eq_true rfl) hw hS dX7_may_92 (fun v25 x_25 H locs t25 h hw hS => ?_)
            exact y_iret C hw hS t25 h dX7_may_95
          · have h := h.2 c22
            refine y_iconst C dX7_may_75 ⟨by decide, by decide⟩ (fun v26 t26 => ?_)
            refine lv_goto (tgt := 95) C.1.1 C.1.2.1 dX7_may_76 (by decide) ?_
            exact y_iret C hw hS t26 h dX7_may_95
        · have h := h.2 c11
          refine y_bipush C dX7_may_33 ⟨by decide, by decide⟩ (fun v27 t27 => ?_)
          exact y_iret C hw hS t27 h dX7_may_35
theorem kX7_may (l : Launch) (G : GG) (SB S : St) {xv1 : Int32} {x1 : Int} (xt1 : xv1.toInt = x1) {xv2 : Int32} {x2 : Int} (xt2 : xv2.toInt = x2) {xv3 : Int32} {x3 : Int} (xt3 : xv3.toInt = x3) {xv4 : Int32} {x4 : Int} (xt4 : xv4.toInt = x4) {k : Int → St → Prop} (h : wX7_may S x1 x2 x3 x4 k) : CnI l yX7_may cX7_may 6 (some .int) 4 93 G (injC SB) [.ref (G.2.2 0), .int xv1, .int xv2, .int xv3, .int xv4] S k :=
  cn_body (by decide +kernel) (Nat.le_of_ble_eq_true rfl) (fun p e s m args below meth c ls C hw hl => uX7_may_0 C hw va_S.rf xt1 xt2 xt3 xt4 (lv_sub hl [0, 1, 2, 3, 4] rfl) h)
set_option maxHeartbeats 4000000 in
set_option maxRecDepth 10000 in
theorem uX7_rule_42 {p : Program} {l : Launch} {e : Env} {s : State} {m : MethodId} {args : Array Value} {below : List Frame} {meth : Method} {c : Code} {G : GG} {SB : St} (C : Cx p s m args meth c G RX7 cX7_rule 7 (some .int)) {S : St} {H : Heap} {locs : List Loc} {ls : Array Slot}  {k : Int → St → Prop} (hw : Wd G ((injC SB) S) H) (hS : va_S (AG G) s.heap H locs) {xv1 : Int32} {x1 : Int} (xt1 : xv1.toInt = x1) {xv2 : Int32} {x2 : Int} (xt2 : xv2.toInt = x2) {xv3 : Int32} {x3 : Int} (xt3 : xv3.toInt = x3) {xv4 : Int32} {x4 : Int} (xt4 : xv4.toInt = x4) {xv5 : Int32} {x5 : Int} (xt5 : xv5.toInt = x5) (hl : lv_has ls 7 [(0, .ref (G.2.2 0)), (1, .int xv1), (2, .int xv2), (3, .int xv3), (4, .int xv4), (5, .int xv5)])  (h : wX7_rule_42 S x1 x2 x3 x4 x5 k) : W p l e (rmF 6 142) s m args below meth c H locs 0 0 (MQ below (QcI G (injC SB) k) args s 0 0 (AG G)) (F0 m 42 ls []) := by
  refine lv_iload_n C.1.1 C.1.2.1 dX7_rule_42 rfl (lv_at hl 1 rfl) ?_
  refine y_if_lt C xt1 dX7_rule_43 (tgt := 51) (by decide) (fun c1 => ?_) (fun c1 => ?_)
  · have h := h.1 c1
    refine y_bipush C dX7_rule_51 ⟨by decide, by decide⟩ (fun v2 t2 => ?_)
    exact y_iret C hw hS t2 h dX7_rule_53
  · have h := h.2 c1
    refine lv_iload_n C.1.1 C.1.2.1 dX7_rule_46 rfl (lv_at hl 1 rfl) ?_
    refine y_iconst C dX7_rule_47 ⟨by decide, by decide⟩ (fun v3 t3 => ?_)
    refine y_icmp_le C xt1 t3 dX7_rule_48 (tgt := 54) (by decide) (fun c4 => ?_) (fun c4 => ?_)
    · have h := h.1 c4
      refine lv_aload_n C.1.1 C.1.2.1 dX7_rule_54 rfl (lv_at hl 0 rfl) ?_
      refine y_getS C fl_X7_44 hw (ock_7 SB) rfl (o := 1037) rfl dX7_rule_55 ?_
      refine lv_aload_n C.1.1 C.1.2.1 dX7_rule_58 rfl (lv_at hl 0 rfl) ?_
      obtain ⟨x_6, e6⟩ : ∃ z : Int, z = S 0 4 := ⟨_, rfl⟩
      obtain ⟨o6, h⟩ := h x_6 e6
      refine y_getO C fl_X7_16 hw (ock_7 SB) rfl e6 o6 dX7_rule_59 ?_
      refine y_cVV C (As := [.ref (G.2.2 (x_6).toNat)]) (rest := []) ml_X7_181 (kX1_open l G SB S o6 h) (ock_1 SB) (T := TX1) (N := 8) rfl (by decide) ⟨(Nat.le_of_ble_eq_true rfl), (Nat.le_of_ble_eq_true rfl)⟩ hl.1 rfl rfl (Nat.le_of_ble_eq_true rfl) hw hS dX7_rule_62 (fun S_7 H locs h hw hS => ?_)
      refine lv_aload_n C.1.1 C.1.2.1 dX7_rule_65 rfl (lv_at hl 0 rfl) ?_
      refine y_getS C fl_X7_44 hw (ock_7 SB) rfl (o := 1037) rfl dX7_rule_66 ?_
      refine lv_iload_n C.1.1 C.1.2.1 dX7_rule_69 rfl (lv_at hl 1 rfl) ?_
      refine lv_iload_n C.1.1 C.1.2.1 dX7_rule_70 rfl (lv_at hl 2 rfl) ?_
      refine lv_iload_n C.1.1 C.1.2.1 dX7_rule_71 rfl (lv_at hl 3 rfl) ?_
      refine lv_iload C.1.1 C.1.2.1 dX7_rule_72 (lv_at hl 4 rfl) ?_
      refine lv_iload C.1.1 C.1.2.1 dX7_rule_74 (lv_at hl 5 rfl) ?_
      refine y_cVI C (As := [.int xv1, .int xv2, .int xv3, .int xv4, .int xv5]) (rest := []) ml_X7_202 (kX1_judge l G SB S_7 xt1 xt2 xt3 xt4 xt5 h) (ock_1 SB) (T := TX1) (N := 8) rfl (by decide) ⟨(Nat.le_of_ble_eq_true rfl), (Nat.le_of_ble_eq_true rfl)⟩ hl.1 rfl rfl (Nat.le_of_ble_eq_true rfl) hw hS dX7_rule_76 (fun v9 x_9 S_9 H locs t9 h hw hS => ?_)
      refine lv_istore (lv' := [(6, .int v9), (0, .ref (G.2.2 0)), (1, .int xv1), (2, .int xv2), (3, .int xv3), (4, .int xv4), (5, .int xv5)]) C.1.1 C.1.2.1 dX7_rule_79 hl (by decide) rfl (fun ls hl => ?_)
      refine lv_aload_n C.1.1 C.1.2.1 dX7_rule_81 rfl (lv_at hl 1 rfl) ?_
      refine lv_aload_n C.1.1 C.1.2.1 dX7_rule_82 rfl (lv_at hl 1 rfl) ?_
      refine y_getS C fl_X7_44 hw (ock_7 SB) rfl (o := 1037) rfl dX7_rule_83 ?_
      refine y_getI C fl_X7_206 hw (ock_1 SB) rfl dX7_rule_86 (fun v11 t11 => ?_)
      obtain ⟨S_12, e12⟩ : ∃ z : St, z = up S_9 0 3 (S_9 1037 7) := ⟨_, rfl⟩
      have h := h S_12 e12
      refine y_putI C fl_X7_209 fp_7_3 hw hS (ock_7 SB) rfl t11 dX7_rule_89 (fun H locs hw hS => ?_)
      have hw : Wd G ((injC SB) S_12) H := by rw [e12]; exact hw
      refine lv_iload C.1.1 C.1.2.1 dX7_rule_92 (lv_at hl 0 rfl) ?_
      exact y_iret C hw hS t9 h dX7_rule_94
    · have h := h.2 c4
      refine y_bipush C dX7_rule_51 ⟨by decide, by decide⟩ (fun v13 t13 => ?_)
      exact y_iret C hw hS t13 h dX7_rule_53
set_option maxHeartbeats 4000000 in
set_option maxRecDepth 10000 in
theorem uX7_rule_0 {p : Program} {l : Launch} {e : Env} {s : State} {m : MethodId} {args : Array Value} {below : List Frame} {meth : Method} {c : Code} {G : GG} {SB : St} (C : Cx p s m args meth c G RX7 cX7_rule 7 (some .int)) {S : St} {H : Heap} {locs : List Loc} {ls : Array Slot}  {k : Int → St → Prop} (hw : Wd G ((injC SB) S) H) (hS : va_S (AG G) s.heap H locs) {xv1 : Int32} {x1 : Int} (xt1 : xv1.toInt = x1) {xv2 : Int32} {x2 : Int} (xt2 : xv2.toInt = x2) {xv3 : Int32} {x3 : Int} (xt3 : xv3.toInt = x3) {xv4 : Int32} {x4 : Int} (xt4 : xv4.toInt = x4) {xv5 : Int32} {x5 : Int} (xt5 : xv5.toInt = x5) (hl : lv_has ls 7 [(0, .ref (G.2.2 0)), (1, .int xv1), (2, .int xv2), (3, .int xv3), (4, .int xv4), (5, .int xv5)])  (h : wX7_rule_0 S x1 x2 x3 x4 x5 k) : W p l e (rmF 6 142) s m args below meth c H locs 0 0 (MQ below (QcI G (injC SB) k) args s 0 0 (AG G)) (F0 m 0 ls []) := by
  refine lv_aload_n C.1.1 C.1.2.1 dX7_rule_0 rfl (lv_at hl 0 rfl) ?_
  refine lv_iload_n C.1.1 C.1.2.1 dX7_rule_1 rfl (lv_at hl 2 rfl) ?_
  refine y_cVIp C (As := [.int xv2]) (rest := []) ml_X7_76 (kX7_isType l G SB S xt2 h) (ock_7 SB) (T := TX7) (N := 9) rfl (by decide) ⟨(Nat.le_of_ble_eq_true rfl), (Nat.le_of_ble_eq_true rfl)⟩ hl.1 rfl rfl (Nat.le_of_ble_eq_true rfl) hw hS dX7_rule_2 (fun v1 x_1 H locs t1 h hw hS => ?_)
  refine y_if_eq C t1 dX7_rule_5 (tgt := 39) (by decide) (fun c2 => ?_) (fun c2 => ?_)
  · have h := h.1 c2
    refine y_bipush C dX7_rule_39 ⟨by decide, by decide⟩ (fun v3 t3 => ?_)
    exact y_iret C hw hS t3 h dX7_rule_41
  · have h := h.2 c2
    refine lv_aload_n C.1.1 C.1.2.1 dX7_rule_8 rfl (lv_at hl 0 rfl) ?_
    refine lv_iload_n C.1.1 C.1.2.1 dX7_rule_9 rfl (lv_at hl 3 rfl) ?_
    refine y_cVIp C (As := [.int xv3]) (rest := []) ml_X7_76 (kX7_isType l G SB S xt3 h) (ock_7 SB) (T := TX7) (N := 9) rfl (by decide) ⟨(Nat.le_of_ble_eq_true rfl), (Nat.le_of_ble_eq_true rfl)⟩ hl.1 rfl rfl (Nat.le_of_ble_eq_true rfl) hw hS dX7_rule_10 (fun v4 x_4 H locs t4 h hw hS => ?_)
    refine y_if_eq C t4 dX7_rule_13 (tgt := 39) (by decide) (fun c5 => ?_) (fun c5 => ?_)
    · have h := h.1 c5
      refine y_bipush C dX7_rule_39 ⟨by decide, by decide⟩ (fun v6 t6 => ?_)
      exact y_iret C hw hS t6 h dX7_rule_41
    · have h := h.2 c5
      refine lv_aload_n C.1.1 C.1.2.1 dX7_rule_16 rfl (lv_at hl 0 rfl) ?_
      refine lv_iload C.1.1 C.1.2.1 dX7_rule_17 (lv_at hl 4 rfl) ?_
      refine y_cVIp C (As := [.int xv4]) (rest := []) ml_X7_128 (kX7_isMember l G SB S xt4 h) (ock_7 SB) (T := TX7) (N := 9) rfl (by decide) ⟨(Nat.le_of_ble_eq_true rfl), (Nat.le_of_ble_eq_true rfl)⟩ hl.1 rfl rfl (Nat.le_of_ble_eq_true rfl) hw hS dX7_rule_19 (fun v7 x_7 H locs t7 h hw hS => ?_)
      refine y_if_eq C t7 dX7_rule_22 (tgt := 39) (by decide) (fun c8 => ?_) (fun c8 => ?_)
      · have h := h.1 c8
        refine y_bipush C dX7_rule_39 ⟨by decide, by decide⟩ (fun v9 t9 => ?_)
        exact y_iret C hw hS t9 h dX7_rule_41
      · have h := h.2 c8
        refine lv_iload_n C.1.1 C.1.2.1 dX7_rule_25 rfl (lv_at hl 1 rfl) ?_
        refine y_iconst C dX7_rule_26 ⟨by decide, by decide⟩ (fun v10 t10 => ?_)
        refine y_icmp_eq C xt1 t10 dX7_rule_27 (tgt := 42) (by decide) (fun c11 => ?_) (fun c11 => ?_)
        · have h := h.1 c11
          exact uX7_rule_42 C hw hS xt1 xt2 xt3 xt4 xt5 (lv_sub hl [0, 1, 2, 3, 4, 5] rfl)  h
        · have h := h.2 c11
          refine lv_aload_n C.1.1 C.1.2.1 dX7_rule_30 rfl (lv_at hl 0 rfl) ?_
          refine lv_iload C.1.1 C.1.2.1 dX7_rule_31 (lv_at hl 5 rfl) ?_
          refine y_cVIp C (As := [.int xv5]) (rest := []) ml_X7_76 (kX7_isType l G SB S xt5 h) (ock_7 SB) (T := TX7) (N := 9) rfl (by decide) ⟨(Nat.le_of_ble_eq_true rfl), (Nat.le_of_ble_eq_true rfl)⟩ hl.1 rfl rfl (Nat.le_of_ble_eq_true rfl) hw hS dX7_rule_33 (fun v12 x_12 H locs t12 h hw hS => ?_)
          refine y_if_ne C t12 dX7_rule_36 (tgt := 42) (by decide) (fun c13 => ?_) (fun c13 => ?_)
          · have h := h.1 c13
            exact uX7_rule_42 C hw hS xt1 xt2 xt3 xt4 xt5 (lv_sub hl [0, 1, 2, 3, 4, 5] rfl)  h
          · have h := h.2 c13
            refine y_bipush C dX7_rule_39 ⟨by decide, by decide⟩ (fun v14 t14 => ?_)
            exact y_iret C hw hS t14 h dX7_rule_41
theorem kX7_rule (l : Launch) (G : GG) (SB S : St) {xv1 : Int32} {x1 : Int} (xt1 : xv1.toInt = x1) {xv2 : Int32} {x2 : Int} (xt2 : xv2.toInt = x2) {xv3 : Int32} {x3 : Int} (xt3 : xv3.toInt = x3) {xv4 : Int32} {x4 : Int} (xt4 : xv4.toInt = x4) {xv5 : Int32} {x5 : Int} (xt5 : xv5.toInt = x5) {k : Int → St → Prop} (h : wX7_rule S x1 x2 x3 x4 x5 k) : CnI l yX7_rule cX7_rule 7 (some .int) 6 142 G (injC SB) [.ref (G.2.2 0), .int xv1, .int xv2, .int xv3, .int xv4, .int xv5] S k :=
  cn_body (by decide +kernel) (Nat.le_of_ble_eq_true rfl) (fun p e s m args below meth c ls C hw hl => uX7_rule_0 C hw va_S.rf xt1 xt2 xt3 xt4 xt5 (lv_sub hl [0, 1, 2, 3, 4, 5] rfl) h)
set_option maxHeartbeats 4000000 in
set_option maxRecDepth 10000 in
theorem uX7_hops_0 {p : Program} {l : Launch} {e : Env} {s : State} {m : MethodId} {args : Array Value} {below : List Frame} {meth : Method} {c : Code} {G : GG} {SB : St} (C : Cx p s m args meth c G RX7 cX7_hops 1 (some .int)) {S : St} {H : Heap} {locs : List Loc} {ls : Array Slot}  {k : Int → Prop} (hw : Wd G ((injC SB) S) H) (hS : va_S (AG G) s.heap H locs)  (hl : lv_has ls 1 [(0, .ref (G.2.2 0))])  (h : wX7_hops_0 S k) : W p l e (rmF 0 0) s m args below meth c H locs 0 0 (MQ below (QcI G (injC SB) (fun r u => k r ∧ u = S)) args s 0 0 (AG G)) (F0 m 0 ls []) := by
  refine lv_aload_n C.1.1 C.1.2.1 dX7_hops_0 rfl (lv_at hl 0 rfl) ?_
  refine y_getI C fl_X7_209 hw (ock_7 SB) rfl dX7_hops_1 (fun v1 t1 => ?_)
  exact y_iret C hw hS t1 ⟨h, rfl⟩ dX7_hops_4
theorem kX7_hops (l : Launch) (G : GG) (SB S : St)  {k : Int → Prop} (h : wX7_hops S k) : CnI l yX7_hops cX7_hops 1 (some .int) 0 0 G (injC SB) [.ref (G.2.2 0)] S (fun r u => k r ∧ u = S) :=
  cn_body (by decide +kernel) (Nat.le_of_ble_eq_true rfl) (fun p e s m args below meth c ls C hw hl => uX7_hops_0 C hw va_S.rf  (lv_sub hl [0] rfl) h)
set_option maxHeartbeats 4000000 in
set_option maxRecDepth 10000 in
theorem uX7_conflicts_0 {p : Program} {l : Launch} {e : Env} {s : State} {m : MethodId} {args : Array Value} {below : List Frame} {meth : Method} {c : Code} {G : GG} {SB : St} (C : Cx p s m args meth c G RX7 cX7_conflicts 2 (some .int)) {S : St} {H : Heap} {locs : List Loc} {ls : Array Slot}  {k : Int → St → Prop} (hw : Wd G ((injC SB) S) H) (hS : va_S (AG G) s.heap H locs) {xv1 : Int32} {x1 : Int} (xt1 : xv1.toInt = x1) (hl : lv_has ls 2 [(0, .ref (G.2.2 0)), (1, .int xv1)])  (h : wX7_conflicts_0 S x1 k) : W p l e (rmF 7 169) s m args below meth c H locs 0 0 (MQ below (QcI G (injC SB) k) args s 0 0 (AG G)) (F0 m 0 ls []) := by
  refine lv_aload_n C.1.1 C.1.2.1 dX7_conflicts_0 rfl (lv_at hl 0 rfl) ?_
  refine lv_iload_n C.1.1 C.1.2.1 dX7_conflicts_1 rfl (lv_at hl 1 rfl) ?_
  refine y_cVIp C (As := [.int xv1]) (rest := []) ml_X7_76 (kX7_isType l G SB S xt1 h) (ock_7 SB) (T := TX7) (N := 9) rfl (by decide) ⟨(Nat.le_of_ble_eq_true rfl), (Nat.le_of_ble_eq_true rfl)⟩ hl.1 rfl rfl (Nat.le_of_ble_eq_true rfl) hw hS dX7_conflicts_2 (fun v1 x_1 H locs t1 h hw hS => ?_)
  refine y_if_ne C t1 dX7_conflicts_5 (tgt := 11) (by decide) (fun c2 => ?_) (fun c2 => ?_)
  · have h := h.1 c2
    refine lv_aload_n C.1.1 C.1.2.1 dX7_conflicts_11 rfl (lv_at hl 0 rfl) ?_
    obtain ⟨x_3, e3⟩ : ∃ z : Int, z = S 0 4 := ⟨_, rfl⟩
    obtain ⟨o3, h⟩ := h x_3 e3
    refine y_getO C fl_X7_16 hw (ock_7 SB) rfl e3 o3 dX7_conflicts_12 ?_
    refine y_getA C fl_X7_80 hw (oc_of SB o3) rfl (o := 1) rfl dX7_conflicts_15 ?_
    refine lv_iload_n C.1.1 C.1.2.1 dX7_conflicts_18 rfl (lv_at hl 1 rfl) ?_
    obtain ⟨b5, h⟩ := h
    obtain ⟨x_5, e5⟩ : ∃ z : Int, z = x_3 + 6 + 6 * x1 := ⟨_, rfl⟩
    have h := h x_5 e5
    have o5 : isO 6 x_5 := isO_ty o3 b5 e5
    refine y_tyO C hw o3 xt1 b5 e5 dX7_conflicts_19 ?_
    refine y_getI C fl_X7_92 hw (oc_of SB o5) rfl dX7_conflicts_20 (fun v6 t6 => ?_)
    refine y_if_eq C t6 dX7_conflicts_23 (tgt := 29) (by decide) (fun c7 => ?_) (fun c7 => ?_)
    · have h := h.1 c7
      refine lv_aload_n C.1.1 C.1.2.1 dX7_conflicts_29 rfl (lv_at hl 0 rfl) ?_
      refine y_getS C fl_X7_44 hw (ock_7 SB) rfl (o := 1037) rfl dX7_conflicts_30 ?_
      refine lv_aload_n C.1.1 C.1.2.1 dX7_conflicts_33 rfl (lv_at hl 0 rfl) ?_
      obtain ⟨x_9, e9⟩ : ∃ z : Int, z = S 0 4 := ⟨_, rfl⟩
      obtain ⟨o9, h⟩ := h x_9 e9
      refine y_getO C fl_X7_16 hw (ock_7 SB) rfl e9 o9 dX7_conflicts_34 ?_
      refine y_cVV C (As := [.ref (G.2.2 (x_9).toNat)]) (rest := []) ml_X7_181 (kX1_open l G SB S o9 h) (ock_1 SB) (T := TX1) (N := 8) rfl (by decide) ⟨(Nat.le_of_ble_eq_true rfl), (Nat.le_of_ble_eq_true rfl)⟩ hl.1 rfl rfl (Nat.le_of_ble_eq_true rfl) hw hS dX7_conflicts_37 (fun S_10 H locs h hw hS => ?_)
      refine lv_aload_n C.1.1 C.1.2.1 dX7_conflicts_40 rfl (lv_at hl 0 rfl) ?_
      refine y_getS C fl_X7_44 hw (ock_7 SB) rfl (o := 1037) rfl dX7_conflicts_41 ?_
      refine lv_iload_n C.1.1 C.1.2.1 dX7_conflicts_44 rfl (lv_at hl 1 rfl) ?_
      refine y_bipush C dX7_conflicts_45 ⟨by decide, by decide⟩ (fun v12 t12 => ?_)
      refine y_cVI C (As := [.int xv1, .int v12]) (rest := []) ml_X7_212 (kX1_count l G SB S_10 xt1 t12 h) (ock_1 SB) (T := TX1) (N := 8) rfl (by decide) ⟨(Nat.le_of_ble_eq_true rfl), (Nat.le_of_ble_eq_true rfl)⟩ hl.1 rfl rfl (Nat.le_of_ble_eq_true rfl) hw hS dX7_conflicts_47 (fun v13 x_13 S_13 H locs t13 h hw hS => ?_)
      exact y_iret C hw hS t13 h dX7_conflicts_50
    · have h := h.2 c7
      refine y_bipush C dX7_conflicts_26 ⟨by decide, by decide⟩ (fun v14 t14 => ?_)
      exact y_iret C hw hS t14 h dX7_conflicts_28
  · have h := h.2 c2
    refine y_bipush C dX7_conflicts_8 ⟨by decide, by decide⟩ (fun v15 t15 => ?_)
    exact y_iret C hw hS t15 h dX7_conflicts_10
theorem kX7_conflicts (l : Launch) (G : GG) (SB S : St) {xv1 : Int32} {x1 : Int} (xt1 : xv1.toInt = x1) {k : Int → St → Prop} (h : wX7_conflicts S x1 k) : CnI l yX7_conflicts cX7_conflicts 2 (some .int) 7 169 G (injC SB) [.ref (G.2.2 0), .int xv1] S k :=
  cn_body (by decide +kernel) (Nat.le_of_ble_eq_true rfl) (fun p e s m args below meth c ls C hw hl => uX7_conflicts_0 C hw va_S.rf xt1 (lv_sub hl [0, 1] rfl) h)
set_option maxHeartbeats 4000000 in
set_option maxRecDepth 10000 in
theorem uX7_tally_0 {p : Program} {l : Launch} {e : Env} {s : State} {m : MethodId} {args : Array Value} {below : List Frame} {meth : Method} {c : Code} {G : GG} {SB : St} (C : Cx p s m args meth c G RX7 cX7_tally 3 (some .int)) {S : St} {H : Heap} {locs : List Loc} {ls : Array Slot}  {k : Int → St → Prop} (hw : Wd G ((injC SB) S) H) (hS : va_S (AG G) s.heap H locs) {xv1 : Int32} {x1 : Int} (xt1 : xv1.toInt = x1) {xv2 : Int32} {x2 : Int} (xt2 : xv2.toInt = x2) (hl : lv_has ls 3 [(0, .ref (G.2.2 0)), (1, .int xv1), (2, .int xv2)])  (h : wX7_tally_0 S x1 x2 k) : W p l e (rmF 7 169) s m args below meth c H locs 0 0 (MQ below (QcI G (injC SB) k) args s 0 0 (AG G)) (F0 m 0 ls []) := by
  refine lv_aload_n C.1.1 C.1.2.1 dX7_tally_0 rfl (lv_at hl 0 rfl) ?_
  refine lv_iload_n C.1.1 C.1.2.1 dX7_tally_1 rfl (lv_at hl 1 rfl) ?_
  refine y_cVIp C (As := [.int xv1]) (rest := []) ml_X7_76 (kX7_isType l G SB S xt1 h) (ock_7 SB) (T := TX7) (N := 9) rfl (by decide) ⟨(Nat.le_of_ble_eq_true rfl), (Nat.le_of_ble_eq_true rfl)⟩ hl.1 rfl rfl (Nat.le_of_ble_eq_true rfl) hw hS dX7_tally_2 (fun v1 x_1 H locs t1 h hw hS => ?_)
  refine y_if_ne C t1 dX7_tally_5 (tgt := 11) (by decide) (fun c2 => ?_) (fun c2 => ?_)
  · have h := h.1 c2
    refine lv_iload_n C.1.1 C.1.2.1 dX7_tally_11 rfl (lv_at hl 2 rfl) ?_
    refine y_bipush C dX7_tally_12 ⟨by decide, by decide⟩ (fun v3 t3 => ?_)
    refine y_icmp_lt C xt2 t3 dX7_tally_14 (tgt := 21) (by decide) (fun c4 => ?_) (fun c4 => ?_)
    · have h := h.1 c4
      refine y_bipush C dX7_tally_21 ⟨by decide, by decide⟩ (fun v5 t5 => ?_)
      exact y_iret C hw hS t5 h dX7_tally_23
    · have h := h.2 c4
      refine lv_iload_n C.1.1 C.1.2.1 dX7_tally_17 rfl (lv_at hl 2 rfl) ?_
      refine y_if_le C xt2 dX7_tally_18 (tgt := 24) (by decide) (fun c6 => ?_) (fun c6 => ?_)
      · have h := h.1 c6
        refine lv_aload_n C.1.1 C.1.2.1 dX7_tally_24 rfl (lv_at hl 0 rfl) ?_
        obtain ⟨x_7, e7⟩ : ∃ z : Int, z = S 0 4 := ⟨_, rfl⟩
        obtain ⟨o7, h⟩ := h x_7 e7
        refine y_getO C fl_X7_16 hw (ock_7 SB) rfl e7 o7 dX7_tally_25 ?_
        refine y_getA C fl_X7_80 hw (oc_of SB o7) rfl (o := 1) rfl dX7_tally_28 ?_
        refine lv_iload_n C.1.1 C.1.2.1 dX7_tally_31 rfl (lv_at hl 1 rfl) ?_
        obtain ⟨b9, h⟩ := h
        obtain ⟨x_9, e9⟩ : ∃ z : Int, z = x_7 + 6 + 6 * x1 := ⟨_, rfl⟩
        have h := h x_9 e9
        have o9 : isO 6 x_9 := isO_ty o7 b9 e9
        refine y_tyO C hw o7 xt1 b9 e9 dX7_tally_32 ?_
        refine y_getI C fl_X7_92 hw (oc_of SB o9) rfl dX7_tally_33 (fun v10 t10 => ?_)
        refine y_if_eq C t10 dX7_tally_36 (tgt := 42) (by decide) (fun c11 => ?_) (fun c11 => ?_)
        · have h := h.1 c11
          refine lv_aload_n C.1.1 C.1.2.1 dX7_tally_42 rfl (lv_at hl 0 rfl) ?_
          refine y_getS C fl_X7_44 hw (ock_7 SB) rfl (o := 1037) rfl dX7_tally_43 ?_
          refine lv_aload_n C.1.1 C.1.2.1 dX7_tally_46 rfl (lv_at hl 0 rfl) ?_
          obtain ⟨x_13, e13⟩ : ∃ z : Int, z = S 0 4 := ⟨_, rfl⟩
          obtain ⟨o13, h⟩ := h x_13 e13
          refine y_getO C fl_X7_16 hw (ock_7 SB) rfl e13 o13 dX7_tally_47 ?_
          refine y_cVV C (As := [.ref (G.2.2 (x_13).toNat)]) (rest := []) ml_X7_181 (kX1_open l G SB S o13 h) (ock_1 SB) (T := TX1) (N := 8) rfl (by decide) ⟨(Nat.le_of_ble_eq_true rfl), (Nat.le_of_ble_eq_true rfl)⟩ hl.1 rfl rfl (Nat.le_of_ble_eq_true rfl) hw hS dX7_tally_50 (fun S_14 H locs h hw hS => ?_)
          refine lv_aload_n C.1.1 C.1.2.1 dX7_tally_53 rfl (lv_at hl 0 rfl) ?_
          refine y_getS C fl_X7_44 hw (ock_7 SB) rfl (o := 1037) rfl dX7_tally_54 ?_
          refine lv_iload_n C.1.1 C.1.2.1 dX7_tally_57 rfl (lv_at hl 1 rfl) ?_
          refine lv_iload_n C.1.1 C.1.2.1 dX7_tally_58 rfl (lv_at hl 2 rfl) ?_
          refine y_cVI C (As := [.int xv1, .int xv2]) (rest := []) ml_X7_212 (kX1_count l G SB S_14 xt1 xt2 h) (ock_1 SB) (T := TX1) (N := 8) rfl (by decide) ⟨(Nat.le_of_ble_eq_true rfl), (Nat.le_of_ble_eq_true rfl)⟩ hl.1 rfl rfl (Nat.le_of_ble_eq_true rfl) hw hS dX7_tally_59 (fun v16 x_16 S_16 H locs t16 h hw hS => ?_)
          exact y_iret C hw hS t16 h dX7_tally_62
        · have h := h.2 c11
          refine y_bipush C dX7_tally_39 ⟨by decide, by decide⟩ (fun v17 t17 => ?_)
          exact y_iret C hw hS t17 h dX7_tally_41
      · have h := h.2 c6
        refine y_bipush C dX7_tally_21 ⟨by decide, by decide⟩ (fun v18 t18 => ?_)
        exact y_iret C hw hS t18 h dX7_tally_23
  · have h := h.2 c2
    refine y_bipush C dX7_tally_8 ⟨by decide, by decide⟩ (fun v19 t19 => ?_)
    exact y_iret C hw hS t19 h dX7_tally_10
theorem kX7_tally (l : Launch) (G : GG) (SB S : St) {xv1 : Int32} {x1 : Int} (xt1 : xv1.toInt = x1) {xv2 : Int32} {x2 : Int} (xt2 : xv2.toInt = x2) {k : Int → St → Prop} (h : wX7_tally S x1 x2 k) : CnI l yX7_tally cX7_tally 3 (some .int) 7 169 G (injC SB) [.ref (G.2.2 0), .int xv1, .int xv2] S k :=
  cn_body (by decide +kernel) (Nat.le_of_ble_eq_true rfl) (fun p e s m args below meth c ls C hw hl => uX7_tally_0 C hw va_S.rf xt1 xt2 (lv_sub hl [0, 1, 2] rfl) h)
set_option maxHeartbeats 4000000 in
set_option maxRecDepth 10000 in
theorem uX7_told_0 {p : Program} {l : Launch} {e : Env} {s : State} {m : MethodId} {args : Array Value} {below : List Frame} {meth : Method} {c : Code} {G : GG} {SB : St} (C : Cx p s m args meth c G RX7 cX7_told 2 (some .int)) {S : St} {H : Heap} {locs : List Loc} {ls : Array Slot}  {k : Int → Prop} (hw : Wd G ((injC SB) S) H) (hS : va_S (AG G) s.heap H locs) {xv1 : Int32} {x1 : Int} (xt1 : xv1.toInt = x1) (hl : lv_has ls 2 [(0, .ref (G.2.2 0)), (1, .int xv1)])  (h : wX7_told_0 S x1 k) : W p l e (rmF 0 0) s m args below meth c H locs 0 0 (MQ below (QcI G (injC SB) (fun r u => k r ∧ u = S)) args s 0 0 (AG G)) (F0 m 0 ls []) := by
  refine lv_iload_n C.1.1 C.1.2.1 dX7_told_0 rfl (lv_at hl 1 rfl) ?_
  by_cases c1_0 : x1 = 0
  · have h := h.1 c1_0
    refine y_tabIn C xt1 c1_0 dX7_told_1 (by decide) (by decide) (off := 35) (by decide +kernel) (tgt := 36) (by decide) ?_
    refine lv_aload_n C.1.1 C.1.2.1 dX7_told_36 rfl (lv_at hl 0 rfl) ?_
    obtain ⟨x_2, e2⟩ : ∃ z : Int, z = S 0 4 := ⟨_, rfl⟩
    obtain ⟨o2, h⟩ := h x_2 e2
    refine y_getO C fl_X7_16 hw (ock_7 SB) rfl e2 o2 dX7_told_37 ?_
    refine y_getI C fl_X7_73 hw (oc_of SB o2) rfl dX7_told_40 (fun v3 t3 => ?_)
    exact y_iret C hw hS t3 ⟨h, rfl⟩ dX7_told_43
  have h := h.2
  by_cases c1_1 : x1 = 1
  · have h := h.1 c1_1
    refine y_tabIn C xt1 c1_1 dX7_told_1 (by decide) (by decide) (off := 43) (by decide +kernel) (tgt := 44) (by decide) ?_
    refine lv_aload_n C.1.1 C.1.2.1 dX7_told_44 rfl (lv_at hl 0 rfl) ?_
    obtain ⟨x_4, e4⟩ : ∃ z : Int, z = S 0 4 := ⟨_, rfl⟩
    obtain ⟨o4, h⟩ := h x_4 e4
    refine y_getO C fl_X7_16 hw (ock_7 SB) rfl e4 o4 dX7_told_45 ?_
    refine y_getI C fl_X7_215 hw (oc_of SB o4) rfl dX7_told_48 (fun v5 t5 => ?_)
    exact y_iret C hw hS t5 ⟨h, rfl⟩ dX7_told_51
  have h := h.2
  by_cases c1_2 : x1 = 2
  · have h := h.1 c1_2
    refine y_tabIn C xt1 c1_2 dX7_told_1 (by decide) (by decide) (off := 51) (by decide +kernel) (tgt := 52) (by decide) ?_
    refine lv_aload_n C.1.1 C.1.2.1 dX7_told_52 rfl (lv_at hl 0 rfl) ?_
    obtain ⟨x_6, e6⟩ : ∃ z : Int, z = S 0 4 := ⟨_, rfl⟩
    obtain ⟨o6, h⟩ := h x_6 e6
    refine y_getO C fl_X7_16 hw (ock_7 SB) rfl e6 o6 dX7_told_53 ?_
    refine y_getI C fl_X7_216 hw (oc_of SB o6) rfl dX7_told_56 (fun v7 t7 => ?_)
    exact y_iret C hw hS t7 ⟨h, rfl⟩ dX7_told_59
  have h := h.2
  by_cases c1_3 : x1 = 3
  · have h := h.1 c1_3
    refine y_tabIn C xt1 c1_3 dX7_told_1 (by decide) (by decide) (off := 59) (by decide +kernel) (tgt := 60) (by decide) ?_
    refine lv_aload_n C.1.1 C.1.2.1 dX7_told_60 rfl (lv_at hl 0 rfl) ?_
    obtain ⟨x_8, e8⟩ : ∃ z : Int, z = S 0 4 := ⟨_, rfl⟩
    obtain ⟨o8, h⟩ := h x_8 e8
    refine y_getO C fl_X7_16 hw (ock_7 SB) rfl e8 o8 dX7_told_61 ?_
    refine y_getI C fl_X7_217 hw (oc_of SB o8) rfl dX7_told_64 (fun v9 t9 => ?_)
    exact y_iret C hw hS t9 ⟨h, rfl⟩ dX7_told_67
  have h := h.2
  by_cases c1_4 : x1 = 4
  · have h := h.1 c1_4
    refine y_tabIn C xt1 c1_4 dX7_told_1 (by decide) (by decide) (off := 67) (by decide +kernel) (tgt := 68) (by decide) ?_
    refine lv_aload_n C.1.1 C.1.2.1 dX7_told_68 rfl (lv_at hl 0 rfl) ?_
    refine y_getI C fl_X7_48 hw (ock_7 SB) rfl dX7_told_69 (fun v10 t10 => ?_)
    exact y_iret C hw hS t10 ⟨h, rfl⟩ dX7_told_72
  have h := h.2
  have c1 := sw_0_4 c1_0 c1_1 c1_2 c1_3 c1_4
  have h := h c1
  refine y_tabOut C xt1 c1 dX7_told_1 (tgt := 73) (by decide) ?_
  refine y_bipush C dX7_told_73 ⟨by decide, by decide⟩ (fun v11 t11 => ?_)
  exact y_iret C hw hS t11 ⟨h, rfl⟩ dX7_told_75
theorem kX7_told (l : Launch) (G : GG) (SB S : St) {xv1 : Int32} {x1 : Int} (xt1 : xv1.toInt = x1) {k : Int → Prop} (h : wX7_told S x1 k) : CnI l yX7_told cX7_told 2 (some .int) 0 0 G (injC SB) [.ref (G.2.2 0), .int xv1] S (fun r u => k r ∧ u = S) :=
  cn_body (by decide +kernel) (Nat.le_of_ble_eq_true rfl) (fun p e s m args below meth c ls C hw hl => uX7_told_0 C hw va_S.rf xt1 (lv_sub hl [0, 1] rfl) h)
