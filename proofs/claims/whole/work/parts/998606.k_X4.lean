/-! by program: the machine meets the models -/
set_option maxHeartbeats 4000000 in
set_option maxRecDepth 10000 in
theorem uX4_start_0 {p : Program} {l : Launch} {e : Env} {s : State} {m : MethodId} {args : Array Value} {below : List Frame} {meth : Method} {c : Code} {G : GG} {SB : St} (C : Cx p s m args meth c G RX4 cX4_start 1 none) {S : St} {H : Heap} {locs : List Loc} {ls : Array Slot}  {k : St → Prop} (hw : Wd G ((injC SB) S) H) (hS : va_S (AG G) s.heap H locs)  (hl : lv_has ls 1 [(0, .ref (G.2.2 1032))])  (h : wX4_start_0 S k) : W p l e (rmF 0 0) s m args below meth c H locs 0 0 (MQ below (QcV G (injC SB) k) args s 0 0 (AG G)) (F0 m 0 ls []) := by
  refine lv_aload_n C.1.1 C.1.2.1 dX4_start_0 rfl (lv_at hl 0 rfl) ?_
  refine y_iconst C dX4_start_1 ⟨by decide, by decide⟩ (fun v1 t1 => ?_)
  obtain ⟨S_2, e2⟩ : ∃ z : St, z = up S 1032 4 0 := ⟨_, rfl⟩
  have h := h S_2 e2
  refine y_putI C fl_X4_82 fp_4_4 hw hS (ock_4 SB) rfl t1 dX4_start_2 (fun H locs hw hS => ?_)
  have hw : Wd G ((injC SB) S_2) H := by rw [e2]; exact hw
  refine lv_aload_n C.1.1 C.1.2.1 dX4_start_5 rfl (lv_at hl 0 rfl) ?_
  refine lv_aload_n C.1.1 C.1.2.1 dX4_start_6 rfl (lv_at hl 0 rfl) ?_
  refine y_getS C fl_X4_15 hw (ock_4 SB) rfl (o := 1028) rfl dX4_start_7 ?_
  refine y_getA C fl_X4_85 hw (ock_5 SB) rfl (o := 1) rfl dX4_start_10 ?_
  refine y_iconst C dX4_start_13 ⟨by decide, by decide⟩ (fun v5 t5 => ?_)
  refine y_iald C hw (ack_5_0 SB) t5 ⟨by decide, by decide⟩ dX4_start_14 (fun v6 t6 => ?_)
  obtain ⟨S_7, e7⟩ : ∃ z : St, z = up S_2 1032 5 (S_2 1029 0) := ⟨_, rfl⟩
  have h := h S_7 e7
  refine y_putI C fl_X4_60 fp_4_5 hw hS (ock_4 SB) rfl t6 dX4_start_15 (fun H locs hw hS => ?_)
  have hw : Wd G ((injC SB) S_7) H := by rw [e7]; exact hw
  refine lv_aload_n C.1.1 C.1.2.1 dX4_start_18 rfl (lv_at hl 0 rfl) ?_
  refine lv_aload_n C.1.1 C.1.2.1 dX4_start_19 rfl (lv_at hl 0 rfl) ?_
  refine y_getS C fl_X4_15 hw (ock_4 SB) rfl (o := 1028) rfl dX4_start_20 ?_
  refine y_getA C fl_X4_91 hw (ock_5 SB) rfl (o := 2) rfl dX4_start_23 ?_
  refine y_iconst C dX4_start_26 ⟨by decide, by decide⟩ (fun v10 t10 => ?_)
  refine y_lald C hw (ack_5_1 SB) t10 ⟨by decide, by decide⟩ dX4_start_27 (fun v11 t11 => ?_)
  obtain ⟨S_12, e12⟩ : ∃ z : St, z = up S_7 1032 6 (S_7 1030 0) := ⟨_, rfl⟩
  have h := h S_12 e12
  refine y_putJ C fl_X4_94 fp_4_6 hw hS (ock_4 SB) rfl t11 dX4_start_28 (fun H locs hw hS => ?_)
  have hw : Wd G ((injC SB) S_12) H := by rw [e12]; exact hw
  refine lv_aload_n C.1.1 C.1.2.1 dX4_start_31 rfl (lv_at hl 0 rfl) ?_
  refine y_iconst C dX4_start_32 ⟨by decide, by decide⟩ (fun v13 t13 => ?_)
  obtain ⟨S_14, e14⟩ : ∃ z : St, z = up S_12 1032 7 0 := ⟨_, rfl⟩
  have h := h S_14 e14
  refine y_putI C fl_X4_98 fp_4_7 hw hS (ock_4 SB) rfl t13 dX4_start_33 (fun H locs hw hS => ?_)
  have hw : Wd G ((injC SB) S_14) H := by rw [e14]; exact hw
  refine lv_aload_n C.1.1 C.1.2.1 dX4_start_36 rfl (lv_at hl 0 rfl) ?_
  refine y_iconst C dX4_start_37 ⟨by decide, by decide⟩ (fun v15 t15 => ?_)
  obtain ⟨S_16, e16⟩ : ∃ z : St, z = up S_14 1032 8 0 := ⟨_, rfl⟩
  have h := h S_16 e16
  refine y_putI C fl_X4_101 fp_4_8 hw hS (ock_4 SB) rfl t15 dX4_start_38 (fun H locs hw hS => ?_)
  have hw : Wd G ((injC SB) S_16) H := by rw [e16]; exact hw
  refine lv_aload_n C.1.1 C.1.2.1 dX4_start_41 rfl (lv_at hl 0 rfl) ?_
  refine y_iconst C dX4_start_42 ⟨by decide, by decide⟩ (fun v17 t17 => ?_)
  obtain ⟨S_18, e18⟩ : ∃ z : St, z = up S_16 1032 9 0 := ⟨_, rfl⟩
  have h := h S_18 e18
  refine y_putI C fl_X4_104 fp_4_9 hw hS (ock_4 SB) rfl t17 dX4_start_43 (fun H locs hw hS => ?_)
  have hw : Wd G ((injC SB) S_18) H := by rw [e18]; exact hw
  refine lv_aload_n C.1.1 C.1.2.1 dX4_start_46 rfl (lv_at hl 0 rfl) ?_
  refine y_iconst C dX4_start_47 ⟨by decide, by decide⟩ (fun v19 t19 => ?_)
  obtain ⟨S_20, e20⟩ : ∃ z : St, z = up S_18 1032 10 0 := ⟨_, rfl⟩
  have h := h S_20 e20
  refine y_putI C fl_X4_107 fp_4_10 hw hS (ock_4 SB) rfl t19 dX4_start_48 (fun H locs hw hS => ?_)
  have hw : Wd G ((injC SB) S_20) H := by rw [e20]; exact hw
  refine lv_aload_n C.1.1 C.1.2.1 dX4_start_51 rfl (lv_at hl 0 rfl) ?_
  refine y_iconst C dX4_start_52 ⟨by decide, by decide⟩ (fun v21 t21 => ?_)
  obtain ⟨S_22, e22⟩ : ∃ z : St, z = up S_20 1032 11 0 := ⟨_, rfl⟩
  have h := h S_22 e22
  refine y_putI C fl_X4_56 fp_4_11 hw hS (ock_4 SB) rfl t21 dX4_start_53 (fun H locs hw hS => ?_)
  have hw : Wd G ((injC SB) S_22) H := by rw [e22]; exact hw
  exact y_vret C hw hS h dX4_start_56
theorem kX4_start (l : Launch) (G : GG) (SB S : St)  {k : St → Prop} (h : wX4_start S k) : CnV l yX4_start cX4_start 1 none 0 0 G (injC SB) [.ref (G.2.2 1032)] S k :=
  cn_body (by decide +kernel) (Nat.le_of_ble_eq_true rfl) (fun p e s m args below meth c ls C hw hl => uX4_start_0 C hw va_S.rf  (lv_sub hl [0] rfl) h)
set_option maxHeartbeats 4000000 in
set_option maxRecDepth 10000 in
theorem uX4_advance_26 {p : Program} {l : Launch} {e : Env} {s : State} {m : MethodId} {args : Array Value} {below : List Frame} {meth : Method} {c : Code} {G : GG} {SB : St} (C : Cx p s m args meth c G RX4 cX4_advance 1 none) {S : St} {H : Heap} {locs : List Loc} {ls : Array Slot}  {k : St → Prop} (hw : Wd G ((injC SB) S) H) (hS : va_S (AG G) s.heap H locs)  (hl : lv_has ls 1 [(0, .ref (G.2.2 1032))])  (h : wX4_advance_26 S k) : W p l e (rmF 0 0) s m args below meth c H locs 0 0 (MQ below (QcV G (injC SB) k) args s 0 0 (AG G)) (F0 m 26 ls []) := by
  refine lv_aload_n C.1.1 C.1.2.1 dX4_advance_26 rfl (lv_at hl 0 rfl) ?_
  refine lv_aload_n C.1.1 C.1.2.1 dX4_advance_27 rfl (lv_at hl 0 rfl) ?_
  refine y_getS C fl_X4_15 hw (ock_4 SB) rfl (o := 1028) rfl dX4_advance_28 ?_
  refine y_getA C fl_X4_85 hw (ock_5 SB) rfl (o := 1) rfl dX4_advance_31 ?_
  refine lv_aload_n C.1.1 C.1.2.1 dX4_advance_34 rfl (lv_at hl 0 rfl) ?_
  refine y_getI C fl_X4_82 hw (ock_4 SB) rfl dX4_advance_35 (fun v3 t3 => ?_)
  obtain ⟨b4, h⟩ := h
  refine y_iald C hw (ack_5_0 SB) t3 b4 dX4_advance_38 (fun v4 t4 => ?_)
  obtain ⟨S_5, e5⟩ : ∃ z : St, z = up S 1032 5 (S 1029 (S 1032 4)) := ⟨_, rfl⟩
  have h := h S_5 e5
  refine y_putI C fl_X4_60 fp_4_5 hw hS (ock_4 SB) rfl t4 dX4_advance_39 (fun H locs hw hS => ?_)
  have hw : Wd G ((injC SB) S_5) H := by rw [e5]; exact hw
  refine lv_aload_n C.1.1 C.1.2.1 dX4_advance_42 rfl (lv_at hl 0 rfl) ?_
  refine lv_aload_n C.1.1 C.1.2.1 dX4_advance_43 rfl (lv_at hl 0 rfl) ?_
  refine y_getS C fl_X4_15 hw (ock_4 SB) rfl (o := 1028) rfl dX4_advance_44 ?_
  refine y_getA C fl_X4_91 hw (ock_5 SB) rfl (o := 2) rfl dX4_advance_47 ?_
  refine lv_aload_n C.1.1 C.1.2.1 dX4_advance_50 rfl (lv_at hl 0 rfl) ?_
  refine y_getI C fl_X4_82 hw (ock_4 SB) rfl dX4_advance_51 (fun v8 t8 => ?_)
  obtain ⟨b9, h⟩ := h
  refine y_lald C hw (ack_5_1 SB) t8 b9 dX4_advance_54 (fun v9 t9 => ?_)
  obtain ⟨S_10, e10⟩ : ∃ z : St, z = up S_5 1032 6 (S_5 1030 (S_5 1032 4)) := ⟨_, rfl⟩
  have h := h S_10 e10
  refine y_putJ C fl_X4_94 fp_4_6 hw hS (ock_4 SB) rfl t9 dX4_advance_55 (fun H locs hw hS => ?_)
  have hw : Wd G ((injC SB) S_10) H := by rw [e10]; exact hw
  exact y_vret C hw hS h dX4_advance_58
set_option maxHeartbeats 4000000 in
set_option maxRecDepth 10000 in
theorem uX4_advance_0 {p : Program} {l : Launch} {e : Env} {s : State} {m : MethodId} {args : Array Value} {below : List Frame} {meth : Method} {c : Code} {G : GG} {SB : St} (C : Cx p s m args meth c G RX4 cX4_advance 1 none) {S : St} {H : Heap} {locs : List Loc} {ls : Array Slot}  {k : St → Prop} (hw : Wd G ((injC SB) S) H) (hS : va_S (AG G) s.heap H locs)  (hl : lv_has ls 1 [(0, .ref (G.2.2 1032))])  (h : wX4_advance_0 S k) : W p l e (rmF 0 0) s m args below meth c H locs 0 0 (MQ below (QcV G (injC SB) k) args s 0 0 (AG G)) (F0 m 0 ls []) := by
  refine lv_aload_n C.1.1 C.1.2.1 dX4_advance_0 rfl (lv_at hl 0 rfl) ?_
  refine y_getI C fl_X4_82 hw (ock_4 SB) rfl dX4_advance_1 (fun v1 t1 => ?_)
  refine lv_aload_n C.1.1 C.1.2.1 dX4_advance_4 rfl (lv_at hl 0 rfl) ?_
  refine y_getS C fl_X4_15 hw (ock_4 SB) rfl (o := 1028) rfl dX4_advance_5 ?_
  refine y_getI C fl_X4_133 hw (ock_5 SB) rfl dX4_advance_8 (fun v3 t3 => ?_)
  refine y_iconst C dX4_advance_11 ⟨by decide, by decide⟩ (fun v4 t4 => ?_)
  refine y_isub C t3 t4 dX4_advance_12 (fun v5 t5 => ?_)
  refine y_icmp_ge C t1 t5 dX4_advance_13 (tgt := 26) (by decide) (fun c6 => ?_) (fun c6 => ?_)
  · have h := h.1 c6
    exact uX4_advance_26 C hw hS  (lv_sub hl [0] rfl)  h
  · have h := h.2 c6
    refine lv_aload_n C.1.1 C.1.2.1 dX4_advance_16 rfl (lv_at hl 0 rfl) ?_
    refine lv_dup C.1.1 C.1.2.1 dX4_advance_17 rfl ?_
    refine y_getI C fl_X4_82 hw (ock_4 SB) rfl dX4_advance_18 (fun v7 t7 => ?_)
    refine y_iconst C dX4_advance_21 ⟨by decide, by decide⟩ (fun v8 t8 => ?_)
    refine y_iadd C t7 t8 dX4_advance_22 (fun v9 t9 => ?_)
    obtain ⟨S_10, e10⟩ : ∃ z : St, z = up S 1032 4 (w32 (S 1032 4 + 1)) := ⟨_, rfl⟩
    have h := h S_10 e10
    refine y_putI C fl_X4_82 fp_4_4 hw hS (ock_4 SB) rfl t9 dX4_advance_23 (fun H locs hw hS => ?_)
    have hw : Wd G ((injC SB) S_10) H := by rw [e10]; exact hw
    exact uX4_advance_26 C hw hS  (lv_sub hl [0] rfl)  h
theorem kX4_advance (l : Launch) (G : GG) (SB S : St)  {k : St → Prop} (h : wX4_advance S k) : CnV l yX4_advance cX4_advance 1 none 0 0 G (injC SB) [.ref (G.2.2 1032)] S k :=
  cn_body (by decide +kernel) (Nat.le_of_ble_eq_true rfl) (fun p e s m args below meth c ls C hw hl => uX4_advance_0 C hw va_S.rf  (lv_sub hl [0] rfl) h)
set_option maxHeartbeats 4000000 in
set_option maxRecDepth 10000 in
theorem uX4_fail_0 {p : Program} {l : Launch} {e : Env} {s : State} {m : MethodId} {args : Array Value} {below : List Frame} {meth : Method} {c : Code} {G : GG} {SB : St} (C : Cx p s m args meth c G RX4 cX4_fail 2 (some .boolean)) {S : St} {H : Heap} {locs : List Loc} {ls : Array Slot}  {k : Int → St → Prop} (hw : Wd G ((injC SB) S) H) (hS : va_S (AG G) s.heap H locs) {xv1 : Int32} {x1 : Int} (xt1 : xv1.toInt = x1) (hl : lv_has ls 2 [(0, .ref (G.2.2 1032)), (1, .int xv1)])  (h : wX4_fail_0 S x1 k) : W p l e (rmF 0 0) s m args below meth c H locs 0 0 (MQ below (QcI G (injC SB) k) args s 0 0 (AG G)) (F0 m 0 ls []) := by
  refine lv_aload_n C.1.1 C.1.2.1 dX4_fail_0 rfl (lv_at hl 0 rfl) ?_
  refine lv_iload_n C.1.1 C.1.2.1 dX4_fail_1 rfl (lv_at hl 1 rfl) ?_
  obtain ⟨S_1, e1⟩ : ∃ z : St, z = up S 1032 7 x1 := ⟨_, rfl⟩
  have h := h S_1 e1
  refine y_putI C fl_X4_98 fp_4_7 hw hS (ock_4 SB) rfl xt1 dX4_fail_2 (fun H locs hw hS => ?_)
  have hw : Wd G ((injC SB) S_1) H := by rw [e1]; exact hw
  refine lv_aload_n C.1.1 C.1.2.1 dX4_fail_5 rfl (lv_at hl 0 rfl) ?_
  refine lv_aload_n C.1.1 C.1.2.1 dX4_fail_6 rfl (lv_at hl 0 rfl) ?_
  refine y_getS C fl_X4_15 hw (ock_4 SB) rfl (o := 1028) rfl dX4_fail_7 ?_
  refine y_getA C fl_X4_136 hw (ock_5 SB) rfl (o := 3) rfl dX4_fail_10 ?_
  refine lv_aload_n C.1.1 C.1.2.1 dX4_fail_13 rfl (lv_at hl 0 rfl) ?_
  refine y_getI C fl_X4_82 hw (ock_4 SB) rfl dX4_fail_14 (fun v4 t4 => ?_)
  obtain ⟨b5, h⟩ := h
  refine y_iald C hw (ack_5_2 SB) t4 b5 dX4_fail_17 (fun v5 t5 => ?_)
  obtain ⟨S_6, e6⟩ : ∃ z : St, z = up S_1 1032 8 (S_1 1031 (S_1 1032 4)) := ⟨_, rfl⟩
  have h := h S_6 e6
  refine y_putI C fl_X4_101 fp_4_8 hw hS (ock_4 SB) rfl t5 dX4_fail_18 (fun H locs hw hS => ?_)
  have hw : Wd G ((injC SB) S_6) H := by rw [e6]; exact hw
  refine y_iconst C dX4_fail_21 ⟨by decide, by decide⟩ (fun v7 t7 => ?_)
  exact y_zret C hw hS t7 (Or.inl rfl) h dX4_fail_22
theorem kX4_fail (l : Launch) (G : GG) (SB S : St) {xv1 : Int32} {x1 : Int} (xt1 : xv1.toInt = x1) {k : Int → St → Prop} (h : wX4_fail S x1 k) : CnI l yX4_fail cX4_fail 2 (some .boolean) 0 0 G (injC SB) [.ref (G.2.2 1032), .int xv1] S k :=
  cn_body (by decide +kernel) (Nat.le_of_ble_eq_true rfl) (fun p e s m args below meth c ls C hw hl => uX4_fail_0 C hw va_S.rf xt1 (lv_sub hl [0, 1] rfl) h)
set_option maxHeartbeats 4000000 in
set_option maxRecDepth 10000 in
theorem uX4_misfit_14 {p : Program} {l : Launch} {e : Env} {s : State} {m : MethodId} {args : Array Value} {below : List Frame} {meth : Method} {c : Code} {G : GG} {SB : St} (C : Cx p s m args meth c G RX4 cX4_misfit 1 (some .boolean)) {S : St} {H : Heap} {locs : List Loc} {ls : Array Slot}  {k : Int → St → Prop} (hw : Wd G ((injC SB) S) H) (hS : va_S (AG G) s.heap H locs) {sv1 : Int32} {s1 : Int} (st1 : sv1.toInt = s1) (hl : lv_has ls 1 [])  (h : wX4_misfit_14 S s1 k) : W p l e (rmF 1 21) s m args below meth c H locs 0 0 (MQ below (QcI G (injC SB) k) args s 0 0 (AG G)) (F0 m 14 ls [.int sv1, .ref (G.2.2 1032)]) := by
  refine y_cVI C (As := [.int sv1]) (rest := []) ml_X4_126 (kX4_fail l G SB S st1 h) (ock_4 SB) (T := TX4) (N := 15) rfl (by decide) ⟨(Nat.le_of_ble_eq_true rfl), (Nat.le_of_ble_eq_true rfl)⟩ hl.1 rfl rfl (Nat.le_of_ble_eq_true rfl) hw hS dX4_misfit_14 (fun v1 x_1 S_1 H locs t1 h hw hS => ?_)
  obtain ⟨z, h⟩ := h
  exact y_zret C hw hS t1 z h dX4_misfit_17
set_option maxHeartbeats 4000000 in
set_option maxRecDepth 10000 in
theorem uX4_misfit_0 {p : Program} {l : Launch} {e : Env} {s : State} {m : MethodId} {args : Array Value} {below : List Frame} {meth : Method} {c : Code} {G : GG} {SB : St} (C : Cx p s m args meth c G RX4 cX4_misfit 1 (some .boolean)) {S : St} {H : Heap} {locs : List Loc} {ls : Array Slot}  {k : Int → St → Prop} (hw : Wd G ((injC SB) S) H) (hS : va_S (AG G) s.heap H locs)  (hl : lv_has ls 1 [(0, .ref (G.2.2 1032))])  (h : wX4_misfit_0 S k) : W p l e (rmF 1 21) s m args below meth c H locs 0 0 (MQ below (QcI G (injC SB) k) args s 0 0 (AG G)) (F0 m 0 ls []) := by
  refine lv_aload_n C.1.1 C.1.2.1 dX4_misfit_0 rfl (lv_at hl 0 rfl) ?_
  refine lv_aload_n C.1.1 C.1.2.1 dX4_misfit_1 rfl (lv_at hl 0 rfl) ?_
  refine y_getI C fl_X4_60 hw (ock_4 SB) rfl dX4_misfit_2 (fun v1 t1 => ?_)
  refine y_iconst C dX4_misfit_5 ⟨by decide, by decide⟩ (fun v2 t2 => ?_)
  refine y_icmp_ne C t1 t2 dX4_misfit_6 (tgt := 13) (by decide) (fun c3 => ?_) (fun c3 => ?_)
  · have h := h.1 c3
    refine y_iconst C dX4_misfit_13 ⟨by decide, by decide⟩ (fun v4 t4 => ?_)
    exact uX4_misfit_14 C hw hS t4 (lv_sub hl [] rfl)  h
  · have h := h.2 c3
    refine y_iconst C dX4_misfit_9 ⟨by decide, by decide⟩ (fun v5 t5 => ?_)
    refine lv_goto (tgt := 14) C.1.1 C.1.2.1 dX4_misfit_10 (by decide) ?_
    exact uX4_misfit_14 C hw hS t5 (lv_sub hl [] rfl)  h
theorem kX4_misfit (l : Launch) (G : GG) (SB S : St)  {k : Int → St → Prop} (h : wX4_misfit S k) : CnI l yX4_misfit cX4_misfit 1 (some .boolean) 1 21 G (injC SB) [.ref (G.2.2 1032)] S k :=
  cn_body (by decide +kernel) (Nat.le_of_ble_eq_true rfl) (fun p e s m args below meth c ls C hw hl => uX4_misfit_0 C hw va_S.rf  (lv_sub hl [0] rfl) h)
set_option maxHeartbeats 4000000 in
set_option maxRecDepth 10000 in
theorem uX4_readVar_0 {p : Program} {l : Launch} {e : Env} {s : State} {m : MethodId} {args : Array Value} {below : List Frame} {meth : Method} {c : Code} {G : GG} {SB : St} (C : Cx p s m args meth c G RX4 cX4_readVar 2 (some .boolean)) {S : St} {H : Heap} {locs : List Loc} {ls : Array Slot}  {k : Int → St → Prop} (hw : Wd G ((injC SB) S) H) (hS : va_S (AG G) s.heap H locs) {xv1 : Int32} {x1 : Int} (xt1 : xv1.toInt = x1) (hl : lv_has ls 2 [(0, .ref (G.2.2 1032)), (1, .int xv1)])  (h : wX4_readVar_0 S x1 k) : W p l e (rmF 2 41) s m args below meth c H locs 0 0 (MQ below (QcI G (injC SB) k) args s 0 0 (AG G)) (F0 m 0 ls []) := by
  refine lv_aload_n C.1.1 C.1.2.1 dX4_readVar_0 rfl (lv_at hl 0 rfl) ?_
  refine y_getI C fl_X4_60 hw (ock_4 SB) rfl dX4_readVar_1 (fun v1 t1 => ?_)
  refine y_iconst C dX4_readVar_4 ⟨by decide, by decide⟩ (fun v2 t2 => ?_)
  refine y_icmp_eq C t1 t2 dX4_readVar_5 (tgt := 13) (by decide) (fun c3 => ?_) (fun c3 => ?_)
  · have h := h.1 c3
    refine lv_aload_n C.1.1 C.1.2.1 dX4_readVar_13 rfl (lv_at hl 0 rfl) ?_
    obtain ⟨x_4, e4⟩ : ∃ z : Int, z = S 1032 12 := ⟨_, rfl⟩
    obtain ⟨o4, h⟩ := h x_4 e4
    refine y_getO C fl_X4_38 hw (ock_4 SB) rfl e4 o4 dX4_readVar_14 ?_
    refine lv_aload_n C.1.1 C.1.2.1 dX4_readVar_17 rfl (lv_at hl 0 rfl) ?_
    refine y_getJ C fl_X4_94 hw (ock_4 SB) rfl dX4_readVar_18 (fun v5 t5 => ?_)
    refine y_cVIp C (As := [.long v5]) (rest := []) ml_X4_180 (kX6_varNamed l G SB S o4 t5 h) (oc_of SB o4) (T := TX6) (N := 20) rfl (by decide) ⟨(Nat.le_of_ble_eq_true rfl), (Nat.le_of_ble_eq_true rfl)⟩ hl.1 rfl rfl (Nat.le_of_ble_eq_true rfl) hw hS dX4_readVar_21 (fun v6 x_6 H locs t6 h hw hS => ?_)
    refine y_iconst C dX4_readVar_24 ⟨by decide, by decide⟩ (fun v7 t7 => ?_)
    refine y_icmp_eq C t6 t7 dX4_readVar_25 (tgt := 34) (by decide) (fun c8 => ?_) (fun c8 => ?_)
    · have h := h.1 c8
      refine lv_aload_n C.1.1 C.1.2.1 dX4_readVar_34 rfl (lv_at hl 0 rfl) ?_
      obtain ⟨x_9, e9⟩ : ∃ z : Int, z = S 1032 12 := ⟨_, rfl⟩
      obtain ⟨o9, h⟩ := h x_9 e9
      refine y_getO C fl_X4_38 hw (ock_4 SB) rfl e9 o9 dX4_readVar_35 ?_
      refine y_getA C fl_X4_183 hw (oc_of SB o9) rfl (o := 1) rfl dX4_readVar_38 ?_
      refine lv_iload_n C.1.1 C.1.2.1 dX4_readVar_41 rfl (lv_at hl 1 rfl) ?_
      refine lv_aload_n C.1.1 C.1.2.1 dX4_readVar_42 rfl (lv_at hl 0 rfl) ?_
      refine y_getJ C fl_X4_94 hw (ock_4 SB) rfl dX4_readVar_43 (fun v11 t11 => ?_)
      obtain ⟨b12, h⟩ := h
      obtain ⟨S_12, e12⟩ : ∃ z : St, z = up S (x_9 + 1) x1 (S 1032 6) := ⟨_, rfl⟩
      have h := h S_12 e12
      refine y_last C hw hS (ac_6_7 SB o9) xt1 t11 b12 dX4_readVar_46 (fun H locs hw hS => ?_)
      have hw : Wd G ((injC SB) S_12) H := by rw [e12]; exact hw
      refine lv_aload_n C.1.1 C.1.2.1 dX4_readVar_47 rfl (lv_at hl 0 rfl) ?_
      obtain ⟨x_13, e13⟩ : ∃ z : Int, z = S_12 1032 12 := ⟨_, rfl⟩
      obtain ⟨o13, h⟩ := h x_13 e13
      refine y_getO C fl_X4_38 hw (ock_4 SB) rfl e13 o13 dX4_readVar_48 ?_
      refine y_getA C fl_X4_186 hw (oc_of SB o13) rfl (o := 2) rfl dX4_readVar_51 ?_
      refine lv_iload_n C.1.1 C.1.2.1 dX4_readVar_54 rfl (lv_at hl 1 rfl) ?_
      refine y_iconst C dX4_readVar_55 ⟨by decide, by decide⟩ (fun v15 t15 => ?_)
      obtain ⟨b16, h⟩ := h
      obtain ⟨S_16, e16⟩ : ∃ z : St, z = up S_12 (x_13 + 2) x1 (-1) := ⟨_, rfl⟩
      have h := h S_16 e16
      refine y_iast C hw hS (ac_6_8 SB o13) xt1 t15 b16 dX4_readVar_56 (fun H locs hw hS => ?_)
      have hw : Wd G ((injC SB) S_16) H := by rw [e16]; exact hw
      refine lv_aload_n C.1.1 C.1.2.1 dX4_readVar_57 rfl (lv_at hl 0 rfl) ?_
      obtain ⟨x_17, e17⟩ : ∃ z : Int, z = S_16 1032 12 := ⟨_, rfl⟩
      obtain ⟨o17, h⟩ := h x_17 e17
      refine y_getO C fl_X4_38 hw (ock_4 SB) rfl e17 o17 dX4_readVar_58 ?_
      refine lv_aload_n C.1.1 C.1.2.1 dX4_readVar_61 rfl (lv_at hl 0 rfl) ?_
      obtain ⟨x_18, e18⟩ : ∃ z : Int, z = S_16 1032 12 := ⟨_, rfl⟩
      obtain ⟨o18, h⟩ := h x_18 e18
      refine y_getO C fl_X4_38 hw (ock_4 SB) rfl e18 o18 dX4_readVar_62 ?_
      refine y_getI C fl_X4_189 hw (oc_of SB o18) rfl dX4_readVar_65 (fun v19 t19 => ?_)
      refine lv_iload_n C.1.1 C.1.2.1 dX4_readVar_68 rfl (lv_at hl 1 rfl) ?_
      refine y_bipush C dX4_readVar_69 ⟨by decide, by decide⟩ (fun v20 t20 => ?_)
      refine lv_iload_n C.1.1 C.1.2.1 dX4_readVar_71 rfl (lv_at hl 1 rfl) ?_
      refine y_iadd C t20 xt1 dX4_readVar_72 (fun v21 t21 => ?_)
      refine y_cVV C (As := [.int v19, .int xv1, .int v21]) (rest := []) ml_X4_192 (kX6_setArgument l G SB S_16 o17 t19 xt1 t21 h) (oc_of SB o17) (T := TX6) (N := 20) rfl (by decide) ⟨(Nat.le_of_ble_eq_true rfl), (Nat.le_of_ble_eq_true rfl)⟩ hl.1 rfl rfl (Nat.le_of_ble_eq_true rfl) hw hS dX4_readVar_73 (fun S_22 H locs h hw hS => ?_)
      refine lv_aload_n C.1.1 C.1.2.1 dX4_readVar_76 rfl (lv_at hl 0 rfl) ?_
      obtain ⟨x_23, e23⟩ : ∃ z : Int, z = S_22 1032 12 := ⟨_, rfl⟩
      obtain ⟨o23, h⟩ := h x_23 e23
      refine y_getO C fl_X4_38 hw (ock_4 SB) rfl e23 o23 dX4_readVar_77 ?_
      refine lv_iload_n C.1.1 C.1.2.1 dX4_readVar_80 rfl (lv_at hl 1 rfl) ?_
      refine y_iconst C dX4_readVar_81 ⟨by decide, by decide⟩ (fun v24 t24 => ?_)
      refine y_iadd C xt1 t24 dX4_readVar_82 (fun v25 t25 => ?_)
      obtain ⟨S_26, e26⟩ : ∃ z : St, z = up S_22 x_23 6 (w32 (x1 + 1)) := ⟨_, rfl⟩
      have h := h S_26 e26
      refine y_putI C fl_X4_196 fp_6_6 hw hS (oc_of SB o23) rfl t25 dX4_readVar_83 (fun H locs hw hS => ?_)
      have hw : Wd G ((injC SB) S_26) H := by rw [e26]; exact hw
      refine lv_aload_n C.1.1 C.1.2.1 dX4_readVar_86 rfl (lv_at hl 0 rfl) ?_
      refine y_cVV C (As := []) (rest := []) ml_X4_130 (kX4_advance l G SB S_26  h) (ock_4 SB) (T := TX4) (N := 15) rfl (by decide) ⟨(Nat.le_of_ble_eq_true rfl), (Nat.le_of_ble_eq_true rfl)⟩ hl.1 rfl rfl (Nat.le_of_ble_eq_true rfl) hw hS dX4_readVar_87 (fun S_27 H locs h hw hS => ?_)
      refine y_iconst C dX4_readVar_90 ⟨by decide, by decide⟩ (fun v28 t28 => ?_)
      exact y_zret C hw hS t28 (Or.inr rfl) h dX4_readVar_91
    · have h := h.2 c8
      refine lv_aload_n C.1.1 C.1.2.1 dX4_readVar_28 rfl (lv_at hl 0 rfl) ?_
      refine y_iconst C dX4_readVar_29 ⟨by decide, by decide⟩ (fun v29 t29 => ?_)
      refine y_cVI C (As := [.int v29]) (rest := []) ml_X4_126 (kX4_fail l G SB S t29 h) (ock_4 SB) (T := TX4) (N := 15) rfl (by decide) ⟨(Nat.le_of_ble_eq_true rfl), (Nat.le_of_ble_eq_true rfl)⟩ hl.1 rfl rfl (Nat.le_of_ble_eq_true rfl) hw hS dX4_readVar_30 (fun v30 x_30 S_30 H locs t30 h hw hS => ?_)
      obtain ⟨z, h⟩ := h
      exact y_zret C hw hS t30 z h dX4_readVar_33
  · have h := h.2 c3
    refine lv_aload_n C.1.1 C.1.2.1 dX4_readVar_8 rfl (lv_at hl 0 rfl) ?_
    refine y_cVI C (As := []) (rest := []) ml_X4_119 (kX4_misfit l G SB S  h) (ock_4 SB) (T := TX4) (N := 15) rfl (by decide) ⟨(Nat.le_of_ble_eq_true rfl), (Nat.le_of_ble_eq_true rfl)⟩ hl.1 rfl rfl (Nat.le_of_ble_eq_true rfl) hw hS dX4_readVar_9 (fun v31 x_31 S_31 H locs t31 h hw hS => ?_)
    obtain ⟨z, h⟩ := h
    exact y_zret C hw hS t31 z h dX4_readVar_12
theorem kX4_readVar (l : Launch) (G : GG) (SB S : St) {xv1 : Int32} {x1 : Int} (xt1 : xv1.toInt = x1) {k : Int → St → Prop} (h : wX4_readVar S x1 k) : CnI l yX4_readVar cX4_readVar 2 (some .boolean) 2 41 G (injC SB) [.ref (G.2.2 1032), .int xv1] S k :=
  cn_body (by decide +kernel) (Nat.le_of_ble_eq_true rfl) (fun p e s m args below meth c ls C hw hl => uX4_readVar_0 C hw va_S.rf xt1 (lv_sub hl [0, 1] rfl) h)
set_option maxHeartbeats 4000000 in
set_option maxRecDepth 10000 in
theorem uX4_typeSeen_2_b {p : Program} {l : Launch} {e : Env} {s : State} {m : MethodId} {args : Array Value} {below : List Frame} {meth : Method} {c : Code} {G : GG} {SB : St} (C : Cx p s m args meth c G RX4 cX4_typeSeen 5 (some .int)) {S : St} {H : Heap} {locs : List Loc} {ls : Array Slot}  {P2 : Int → Prop} {k : Int → Prop} (hw : Wd G ((injC SB) S) H) (hS : va_S (AG G) s.heap H locs) {xv1 : Int64} {x1 : Int} (xt1 : xv1.toInt = x1) {xv3 : Int32} {x3 : Int} (xt3 : xv3.toInt = x3) (hl : lv_has ls 5 [(0, .ref (G.2.2 1032)), (1, .long xv1), (3, .int xv3)])  (hP2 : ∀ {H : Heap} {locs : List Loc} {ls : Array Slot} {yv3 : Int32} {y3 : Int}, yv3.toInt = y3 → Wd G ((injC SB) S) H → va_S (AG G) s.heap H locs → lv_has ls 5 [(0, .ref (G.2.2 1032)), (1, .long xv1), (3, .int yv3)] → P2 y3 → W p l e (rmF 0 0) s m args below meth c H locs 0 0 (MQ below (QcI G (injC SB) (fun r u => k r ∧ u = S)) args s 0 0 (AG G)) (F0 m 2 ls [])) (h : wX4_typeSeen_2_b S x1 x3 P2 k) : W p l e (rmF 0 0) s m args below meth c H locs 0 0 (MQ below (QcI G (injC SB) (fun r u => k r ∧ u = S)) args s 0 0 (AG G)) (F0 m 2 ls []) := by
  refine lv_iload_n C.1.1 C.1.2.1 dX4_typeSeen_2 rfl (lv_at hl 2 rfl) ?_
  refine lv_aload_n C.1.1 C.1.2.1 dX4_typeSeen_3 rfl (lv_at hl 0 rfl) ?_
  obtain ⟨x_1, e1⟩ : ∃ z : Int, z = S 1032 3 := ⟨_, rfl⟩
  obtain ⟨o1, h⟩ := h x_1 e1
  refine y_getO C fl_X4_19 hw (ock_4 SB) rfl e1 o1 dX4_typeSeen_4 ?_
  refine y_getI C fl_X4_151 hw (oc_of SB o1) rfl dX4_typeSeen_7 (fun v2 t2 => ?_)
  refine y_icmp_ge C xt3 t2 dX4_typeSeen_10 (tgt := 69) (by decide) (fun c3 => ?_) (fun c3 => ?_)
  · have h := h.1 c3
    refine y_iconst C dX4_typeSeen_69 ⟨by decide, by decide⟩ (fun v4 t4 => ?_)
    exact y_iret C hw hS t4 ⟨h, rfl⟩ dX4_typeSeen_70
  · have h := h.2 c3
    refine lv_aload_n C.1.1 C.1.2.1 dX4_typeSeen_13 rfl (lv_at hl 0 rfl) ?_
    obtain ⟨x_5, e5⟩ : ∃ z : Int, z = S 1032 3 := ⟨_, rfl⟩
    obtain ⟨o5, h⟩ := h x_5 e5
    refine y_getO C fl_X4_19 hw (ock_4 SB) rfl e5 o5 dX4_typeSeen_14 ?_
    refine y_getA C fl_X4_32 hw (oc_of SB o5) rfl (o := 1) rfl dX4_typeSeen_17 ?_
    refine lv_iload_n C.1.1 C.1.2.1 dX4_typeSeen_20 rfl (lv_at hl 2 rfl) ?_
    obtain ⟨b7, h⟩ := h
    obtain ⟨x_7, e7⟩ : ∃ z : Int, z = x_5 + 6 + 6 * x3 := ⟨_, rfl⟩
    have h := h x_7 e7
    have o7 : isO 6 x_7 := isO_ty o5 b7 e7
    refine y_tyO C hw o5 xt3 b7 e7 dX4_typeSeen_21 ?_
    refine lv_astore (lv' := [(4, .ref (G.2.2 (x_7).toNat)), (0, .ref (G.2.2 1032)), (1, .long xv1), (3, .int xv3)]) C.1.1 C.1.2.1 dX4_typeSeen_22 hl (by decide) rfl (fun ls hl => ?_)
    refine lv_aload C.1.1 C.1.2.1 dX4_typeSeen_24 (lv_at hl 0 rfl) ?_
    refine y_getJ C fl_X4_165 hw (oc_of SB o7) rfl dX4_typeSeen_26 (fun v8 t8 => ?_)
    refine lv_lload_n C.1.1 C.1.2.1 dX4_typeSeen_29 rfl (lv_at hl 2 rfl) ?_
    refine y_lcmp C t8 xt1 dX4_typeSeen_30 (fun v9 t9 => ?_)
    refine y_if_ne C t9 dX4_typeSeen_31 (tgt := 63) (by decide) (fun c10 => ?_) (fun c10 => ?_)
    · have c10 := cmp_ne.mp c10
      have h := h.1 c10
      obtain ⟨x_11, e11⟩ : ∃ z : Int, z = w32 (x3 + 1) := ⟨_, rfl⟩
      have h := h x_11 e11
      obtain ⟨v11, t11, g11⟩ : ∃ z : Int32, z.toInt = x_11 ∧ xv3 + Int32.ofInt 1 = z := ⟨_, (ti_inc xt3 ⟨by decide, by decide⟩).trans e11.symm, rfl⟩
      refine lv_iinc (v := v11) (lv' := [(3, .int v11), (4, .ref (G.2.2 (x_7).toNat)), (0, .ref (G.2.2 1032)), (1, .long xv1)]) C.1.1 C.1.2.1 dX4_typeSeen_63 hl (k := 3) rfl g11 (by decide) rfl (fun ls hl => ?_)
      refine lv_goto (tgt := 2) C.1.1 C.1.2.1 dX4_typeSeen_66 (by decide) ?_
      exact hP2 t11 hw hS (lv_sub hl [2, 3, 0] rfl) h
    · have c10 := cmp_eq.mp c10
      have h := h.2 c10
      refine lv_aload C.1.1 C.1.2.1 dX4_typeSeen_34 (lv_at hl 0 rfl) ?_
      refine y_getI C fl_X4_202 hw (oc_of SB o7) rfl dX4_typeSeen_36 (fun v12 t12 => ?_)
      refine y_if_eq C t12 dX4_typeSeen_39 (tgt := 57) (by decide) (fun c13 => ?_) (fun c13 => ?_)
      · have h := h.1 c13
        refine lv_iload_n C.1.1 C.1.2.1 dX4_typeSeen_57 rfl (lv_at hl 3 rfl) ?_
        refine lv_goto (tgt := 62) C.1.1 C.1.2.1 dX4_typeSeen_58 (by decide) ?_
        exact y_iret C hw hS xt3 ⟨h, rfl⟩ dX4_typeSeen_62
      · have h := h.2 c13
        refine lv_aload C.1.1 C.1.2.1 dX4_typeSeen_42 (lv_at hl 0 rfl) ?_
        refine y_getI C fl_X4_202 hw (oc_of SB o7) rfl dX4_typeSeen_44 (fun v14 t14 => ?_)
        refine lv_aload_n C.1.1 C.1.2.1 dX4_typeSeen_47 rfl (lv_at hl 1 rfl) ?_
        obtain ⟨x_15, e15⟩ : ∃ z : Int, z = S 1032 12 := ⟨_, rfl⟩
        obtain ⟨o15, h⟩ := h x_15 e15
        refine y_getO C fl_X4_38 hw (ock_4 SB) rfl e15 o15 dX4_typeSeen_48 ?_
        refine y_getI C fl_X4_202 hw (oc_of SB o15) rfl dX4_typeSeen_51 (fun v16 t16 => ?_)
        refine y_icmp_ne C t14 t16 dX4_typeSeen_54 (tgt := 61) (by decide) (fun c17 => ?_) (fun c17 => ?_)
        · have h := h.1 c17
          refine y_iconst C dX4_typeSeen_61 ⟨by decide, by decide⟩ (fun v18 t18 => ?_)
          exact y_iret C hw hS t18 ⟨h, rfl⟩ dX4_typeSeen_62
        · have h := h.2 c17
          refine lv_iload_n C.1.1 C.1.2.1 dX4_typeSeen_57 rfl (lv_at hl 3 rfl) ?_
          refine lv_goto (tgt := 62) C.1.1 C.1.2.1 dX4_typeSeen_58 (by decide) ?_
          exact y_iret C hw hS xt3 ⟨h, rfl⟩ dX4_typeSeen_62
set_option maxHeartbeats 4000000 in
set_option maxRecDepth 10000 in
theorem uX4_typeSeen_2 {p : Program} {l : Launch} {e : Env} {s : State} {m : MethodId} {args : Array Value} {below : List Frame} {meth : Method} {c : Code} {G : GG} {SB : St} (C : Cx p s m args meth c G RX4 cX4_typeSeen 5 (some .int)) {S : St} {H : Heap} {locs : List Loc} {ls : Array Slot}  {k : Int → Prop} (hw : Wd G ((injC SB) S) H) (hS : va_S (AG G) s.heap H locs) {xv1 : Int64} {x1 : Int} (xt1 : xv1.toInt = x1) {xv3 : Int32} {x3 : Int} (xt3 : xv3.toInt = x3) (hl : lv_has ls 5 [(0, .ref (G.2.2 1032)), (1, .long xv1), (3, .int xv3)])  (h : wX4_typeSeen_2 S x1 x3 k) : W p l e (rmF 0 0) s m args below meth c H locs 0 0 (MQ below (QcI G (injC SB) (fun r u => k r ∧ u = S)) args s 0 0 (AG G)) (F0 m 2 ls []) := by
  have key : ∀ (n : Nat) {H : Heap} {locs : List Loc} {ls : Array Slot} {xv3 : Int32} {x3 : Int}, xv3.toInt = x3 → Wd G ((injC SB) S) H → va_S (AG G) s.heap H locs → lv_has ls 5 [(0, .ref (G.2.2 1032)), (1, .long xv1), (3, .int xv3)] → itP (fun (P : Int → Prop) (a : Int) => wX4_typeSeen_2_b S x1 a (fun b0 => P (b0)) k) n (x3) → W p l e (rmF 0 0) s m args below meth c H locs 0 0 (MQ below (QcI G (injC SB) (fun r u => k r ∧ u = S)) args s 0 0 (AG G)) (F0 m 2 ls []) := by
    intro n
    induction n with
    | zero => intro H locs ls xv3 x3 xt3 hw hS hl h; exact h.elim
    | succ n ih =>
      intro H locs ls xv3 x3 xt3 hw hS hl h
      exact uX4_typeSeen_2_b C hw hS xt1 xt3 hl  (P2 := fun b0 => itP _ n (b0)) (fun q0 hw hS hl h => ih q0 hw hS hl h) h
  obtain ⟨n, hn⟩ := h
  exact key n xt3 hw hS hl hn
set_option maxHeartbeats 4000000 in
set_option maxRecDepth 10000 in
theorem uX4_typeSeen_0 {p : Program} {l : Launch} {e : Env} {s : State} {m : MethodId} {args : Array Value} {below : List Frame} {meth : Method} {c : Code} {G : GG} {SB : St} (C : Cx p s m args meth c G RX4 cX4_typeSeen 5 (some .int)) {S : St} {H : Heap} {locs : List Loc} {ls : Array Slot}  {k : Int → Prop} (hw : Wd G ((injC SB) S) H) (hS : va_S (AG G) s.heap H locs) {xv1 : Int64} {x1 : Int} (xt1 : xv1.toInt = x1) (hl : lv_has ls 5 [(0, .ref (G.2.2 1032)), (1, .long xv1)])  (h : wX4_typeSeen_0 S x1 k) : W p l e (rmF 0 0) s m args below meth c H locs 0 0 (MQ below (QcI G (injC SB) (fun r u => k r ∧ u = S)) args s 0 0 (AG G)) (F0 m 0 ls []) := by
  refine y_iconst C dX4_typeSeen_0 ⟨by decide, by decide⟩ (fun v1 t1 => ?_)
  refine lv_istore_n (lv' := [(3, .int v1), (0, .ref (G.2.2 1032)), (1, .long xv1)]) C.1.1 C.1.2.1 dX4_typeSeen_1 rfl hl (by decide) rfl (fun ls hl => ?_)
  exact uX4_typeSeen_2 C hw hS xt1 t1 (lv_sub hl [1, 2, 0] rfl)  h
theorem kX4_typeSeen (l : Launch) (G : GG) (SB S : St) {xv1 : Int64} {x1 : Int} (xt1 : xv1.toInt = x1) {k : Int → Prop} (h : wX4_typeSeen S x1 k) : CnI l yX4_typeSeen cX4_typeSeen 5 (some .int) 0 0 G (injC SB) [.ref (G.2.2 1032), .long xv1] S (fun r u => k r ∧ u = S) :=
  cn_body (by decide +kernel) (Nat.le_of_ble_eq_true rfl) (fun p e s m args below meth c ls C hw hl => uX4_typeSeen_0 C hw va_S.rf xt1 (lv_sub hl [0, 1] rfl) h)
set_option maxHeartbeats 4000000 in
set_option maxRecDepth 10000 in
theorem uX4_readBound_0 {p : Program} {l : Launch} {e : Env} {s : State} {m : MethodId} {args : Array Value} {below : List Frame} {meth : Method} {c : Code} {G : GG} {SB : St} (C : Cx p s m args meth c G RX4 cX4_readBound 3 (some .boolean)) {S : St} {H : Heap} {locs : List Loc} {ls : Array Slot}  {k : Int → St → Prop} (hw : Wd G ((injC SB) S) H) (hS : va_S (AG G) s.heap H locs) {xv1 : Int32} {x1 : Int} (xt1 : xv1.toInt = x1) (hl : lv_has ls 3 [(0, .ref (G.2.2 1032)), (1, .int xv1)])  (h : wX4_readBound_0 S x1 k) : W p l e (rmF 2 41) s m args below meth c H locs 0 0 (MQ below (QcI G (injC SB) k) args s 0 0 (AG G)) (F0 m 0 ls []) := by
  refine lv_aload_n C.1.1 C.1.2.1 dX4_readBound_0 rfl (lv_at hl 0 rfl) ?_
  refine y_getI C fl_X4_60 hw (ock_4 SB) rfl dX4_readBound_1 (fun v1 t1 => ?_)
  refine y_sipush C dX4_readBound_4 ⟨by decide, by decide⟩ (fun v2 t2 => ?_)
  refine y_icmp_eq C t1 t2 dX4_readBound_7 (tgt := 12) (by decide) (fun c3 => ?_) (fun c3 => ?_)
  · have h := h.1 c3
    refine lv_aload_n C.1.1 C.1.2.1 dX4_readBound_12 rfl (lv_at hl 0 rfl) ?_
    refine y_cVV C (As := []) (rest := []) ml_X4_130 (kX4_advance l G SB S  h) (ock_4 SB) (T := TX4) (N := 15) rfl (by decide) ⟨(Nat.le_of_ble_eq_true rfl), (Nat.le_of_ble_eq_true rfl)⟩ hl.1 rfl rfl (Nat.le_of_ble_eq_true rfl) hw hS dX4_readBound_13 (fun S_4 H locs h hw hS => ?_)
    refine lv_aload_n C.1.1 C.1.2.1 dX4_readBound_16 rfl (lv_at hl 0 rfl) ?_
    refine y_getI C fl_X4_60 hw (ock_4 SB) rfl dX4_readBound_17 (fun v5 t5 => ?_)
    refine y_iconst C dX4_readBound_20 ⟨by decide, by decide⟩ (fun v6 t6 => ?_)
    refine y_icmp_eq C t5 t6 dX4_readBound_21 (tgt := 29) (by decide) (fun c7 => ?_) (fun c7 => ?_)
    · have h := h.1 c7
      refine lv_aload_n C.1.1 C.1.2.1 dX4_readBound_29 rfl (lv_at hl 0 rfl) ?_
      refine lv_aload_n C.1.1 C.1.2.1 dX4_readBound_30 rfl (lv_at hl 0 rfl) ?_
      refine y_getJ C fl_X4_94 hw (ock_4 SB) rfl dX4_readBound_31 (fun v8 t8 => ?_)
      refine y_cVIp C (As := [.long v8]) (rest := []) ml_X4_199 (kX4_typeSeen l G SB S_4 t8 h) (ock_4 SB) (T := TX4) (N := 15) rfl (by decide) ⟨(Nat.le_of_ble_eq_true rfl), (Nat.le_of_ble_eq_true rfl)⟩ hl.1 rfl rfl (Nat.le_of_ble_eq_true rfl) hw hS dX4_readBound_34 (fun v9 x_9 H locs t9 h hw hS => ?_)
      refine lv_istore_n (lv' := [(2, .int v9), (0, .ref (G.2.2 1032)), (1, .int xv1)]) C.1.1 C.1.2.1 dX4_readBound_37 rfl hl (by decide) rfl (fun ls hl => ?_)
      refine lv_iload_n C.1.1 C.1.2.1 dX4_readBound_38 rfl (lv_at hl 0 rfl) ?_
      refine y_iconst C dX4_readBound_39 ⟨by decide, by decide⟩ (fun v10 t10 => ?_)
      refine y_icmp_ne C t9 t10 dX4_readBound_40 (tgt := 49) (by decide) (fun c11 => ?_) (fun c11 => ?_)
      · have h := h.1 c11
        refine lv_aload_n C.1.1 C.1.2.1 dX4_readBound_49 rfl (lv_at hl 1 rfl) ?_
        obtain ⟨x_12, e12⟩ : ∃ z : Int, z = S_4 1032 12 := ⟨_, rfl⟩
        obtain ⟨o12, h⟩ := h x_12 e12
        refine y_getO C fl_X4_38 hw (ock_4 SB) rfl e12 o12 dX4_readBound_50 ?_
        refine y_getA C fl_X4_186 hw (oc_of SB o12) rfl (o := 2) rfl dX4_readBound_53 ?_
        refine lv_iload_n C.1.1 C.1.2.1 dX4_readBound_56 rfl (lv_at hl 2 rfl) ?_
        refine lv_iload_n C.1.1 C.1.2.1 dX4_readBound_57 rfl (lv_at hl 0 rfl) ?_
        obtain ⟨b14, h⟩ := h
        obtain ⟨S_14, e14⟩ : ∃ z : St, z = up S_4 (x_12 + 2) x1 x_9 := ⟨_, rfl⟩
        have h := h S_14 e14
        refine y_iast C hw hS (ac_6_8 SB o12) xt1 t9 b14 dX4_readBound_58 (fun H locs hw hS => ?_)
        have hw : Wd G ((injC SB) S_14) H := by rw [e14]; exact hw
        refine lv_aload_n C.1.1 C.1.2.1 dX4_readBound_59 rfl (lv_at hl 1 rfl) ?_
        refine y_cVV C (As := []) (rest := []) ml_X4_130 (kX4_advance l G SB S_14  h) (ock_4 SB) (T := TX4) (N := 15) rfl (by decide) ⟨(Nat.le_of_ble_eq_true rfl), (Nat.le_of_ble_eq_true rfl)⟩ hl.1 rfl rfl (Nat.le_of_ble_eq_true rfl) hw hS dX4_readBound_60 (fun S_15 H locs h hw hS => ?_)
        refine y_iconst C dX4_readBound_63 ⟨by decide, by decide⟩ (fun v16 t16 => ?_)
        exact y_zret C hw hS t16 (Or.inr rfl) h dX4_readBound_64
      · have h := h.2 c11
        refine lv_aload_n C.1.1 C.1.2.1 dX4_readBound_43 rfl (lv_at hl 1 rfl) ?_
        refine y_iconst C dX4_readBound_44 ⟨by decide, by decide⟩ (fun v17 t17 => ?_)
        refine y_cVI C (As := [.int v17]) (rest := []) ml_X4_126 (kX4_fail l G SB S_4 t17 h) (ock_4 SB) (T := TX4) (N := 15) rfl (by decide) ⟨(Nat.le_of_ble_eq_true rfl), (Nat.le_of_ble_eq_true rfl)⟩ hl.1 rfl rfl (Nat.le_of_ble_eq_true rfl) hw hS dX4_readBound_45 (fun v18 x_18 S_18 H locs t18 h hw hS => ?_)
        obtain ⟨z, h⟩ := h
        exact y_zret C hw hS t18 z h dX4_readBound_48
    · have h := h.2 c7
      refine lv_aload_n C.1.1 C.1.2.1 dX4_readBound_24 rfl (lv_at hl 0 rfl) ?_
      refine y_cVI C (As := []) (rest := []) ml_X4_119 (kX4_misfit l G SB S_4  h) (ock_4 SB) (T := TX4) (N := 15) rfl (by decide) ⟨(Nat.le_of_ble_eq_true rfl), (Nat.le_of_ble_eq_true rfl)⟩ hl.1 rfl rfl (Nat.le_of_ble_eq_true rfl) hw hS dX4_readBound_25 (fun v19 x_19 S_19 H locs t19 h hw hS => ?_)
      obtain ⟨z, h⟩ := h
      exact y_zret C hw hS t19 z h dX4_readBound_28
  · have h := h.2 c3
    refine y_iconst C dX4_readBound_10 ⟨by decide, by decide⟩ (fun v20 t20 => ?_)
    exact y_zret C hw hS t20 (Or.inr rfl) h dX4_readBound_11
theorem kX4_readBound (l : Launch) (G : GG) (SB S : St) {xv1 : Int32} {x1 : Int} (xt1 : xv1.toInt = x1) {k : Int → St → Prop} (h : wX4_readBound S x1 k) : CnI l yX4_readBound cX4_readBound 3 (some .boolean) 2 41 G (injC SB) [.ref (G.2.2 1032), .int xv1] S k :=
  cn_body (by decide +kernel) (Nat.le_of_ble_eq_true rfl) (fun p e s m args below meth c ls C hw hl => uX4_readBound_0 C hw va_S.rf xt1 (lv_sub hl [0, 1] rfl) h)
set_option maxHeartbeats 4000000 in
set_option maxRecDepth 10000 in
theorem uX4_take_0 {p : Program} {l : Launch} {e : Env} {s : State} {m : MethodId} {args : Array Value} {below : List Frame} {meth : Method} {c : Code} {G : GG} {SB : St} (C : Cx p s m args meth c G RX4 cX4_take 2 (some .boolean)) {S : St} {H : Heap} {locs : List Loc} {ls : Array Slot}  {k : Int → St → Prop} (hw : Wd G ((injC SB) S) H) (hS : va_S (AG G) s.heap H locs) {xv1 : Int32} {x1 : Int} (xt1 : xv1.toInt = x1) (hl : lv_has ls 2 [(0, .ref (G.2.2 1032)), (1, .int xv1)])  (h : wX4_take_0 S x1 k) : W p l e (rmF 2 41) s m args below meth c H locs 0 0 (MQ below (QcI G (injC SB) k) args s 0 0 (AG G)) (F0 m 0 ls []) := by
  refine lv_aload_n C.1.1 C.1.2.1 dX4_take_0 rfl (lv_at hl 0 rfl) ?_
  refine y_getI C fl_X4_60 hw (ock_4 SB) rfl dX4_take_1 (fun v1 t1 => ?_)
  refine lv_iload_n C.1.1 C.1.2.1 dX4_take_4 rfl (lv_at hl 1 rfl) ?_
  refine y_icmp_eq C t1 xt1 dX4_take_5 (tgt := 13) (by decide) (fun c2 => ?_) (fun c2 => ?_)
  · have h := h.1 c2
    refine lv_aload_n C.1.1 C.1.2.1 dX4_take_13 rfl (lv_at hl 0 rfl) ?_
    refine y_cVV C (As := []) (rest := []) ml_X4_130 (kX4_advance l G SB S  h) (ock_4 SB) (T := TX4) (N := 15) rfl (by decide) ⟨(Nat.le_of_ble_eq_true rfl), (Nat.le_of_ble_eq_true rfl)⟩ hl.1 rfl rfl (Nat.le_of_ble_eq_true rfl) hw hS dX4_take_14 (fun S_3 H locs h hw hS => ?_)
    refine y_iconst C dX4_take_17 ⟨by decide, by decide⟩ (fun v4 t4 => ?_)
    exact y_zret C hw hS t4 (Or.inr rfl) h dX4_take_18
  · have h := h.2 c2
    refine lv_aload_n C.1.1 C.1.2.1 dX4_take_8 rfl (lv_at hl 0 rfl) ?_
    refine y_cVI C (As := []) (rest := []) ml_X4_119 (kX4_misfit l G SB S  h) (ock_4 SB) (T := TX4) (N := 15) rfl (by decide) ⟨(Nat.le_of_ble_eq_true rfl), (Nat.le_of_ble_eq_true rfl)⟩ hl.1 rfl rfl (Nat.le_of_ble_eq_true rfl) hw hS dX4_take_9 (fun v5 x_5 S_5 H locs t5 h hw hS => ?_)
    obtain ⟨z, h⟩ := h
    exact y_zret C hw hS t5 z h dX4_take_12
theorem kX4_take (l : Launch) (G : GG) (SB S : St) {xv1 : Int32} {x1 : Int} (xt1 : xv1.toInt = x1) {k : Int → St → Prop} (h : wX4_take S x1 k) : CnI l yX4_take cX4_take 2 (some .boolean) 2 41 G (injC SB) [.ref (G.2.2 1032), .int xv1] S k :=
  cn_body (by decide +kernel) (Nat.le_of_ble_eq_true rfl) (fun p e s m args below meth c ls C hw hl => uX4_take_0 C hw va_S.rf xt1 (lv_sub hl [0, 1] rfl) h)
set_option maxHeartbeats 4000000 in
set_option maxRecDepth 10000 in
theorem uX4_readVars_67 {p : Program} {l : Launch} {e : Env} {s : State} {m : MethodId} {args : Array Value} {below : List Frame} {meth : Method} {c : Code} {G : GG} {SB : St} (C : Cx p s m args meth c G RX4 cX4_readVars 2 (some .boolean)) {S : St} {H : Heap} {locs : List Loc} {ls : Array Slot}  {k : Int → St → Prop} (hw : Wd G ((injC SB) S) H) (hS : va_S (AG G) s.heap H locs)  (hl : lv_has ls 2 [(0, .ref (G.2.2 1032))])  (h : wX4_readVars_67 S k) : W p l e (rmF 3 63) s m args below meth c H locs 0 0 (MQ below (QcI G (injC SB) k) args s 0 0 (AG G)) (F0 m 67 ls []) := by
  refine lv_aload_n C.1.1 C.1.2.1 dX4_readVars_67 rfl (lv_at hl 0 rfl) ?_
  refine y_bipush C dX4_readVars_68 ⟨by decide, by decide⟩ (fun v1 t1 => ?_)
  refine y_cVI C (As := [.int v1]) (rest := []) ml_X4_143 (kX4_take l G SB S t1 h) (ock_4 SB) (T := TX4) (N := 15) rfl (by decide) ⟨(Nat.le_of_ble_eq_true rfl), (Nat.le_of_ble_eq_true rfl)⟩ hl.1 rfl rfl (Nat.le_of_ble_eq_true rfl) hw hS dX4_readVars_70 (fun v2 x_2 S_2 H locs t2 h hw hS => ?_)
  obtain ⟨z, h⟩ := h
  exact y_zret C hw hS t2 z h dX4_readVars_73
set_option maxHeartbeats 4000000 in
set_option maxRecDepth 10000 in
theorem uX4_readVars_17_b {p : Program} {l : Launch} {e : Env} {s : State} {m : MethodId} {args : Array Value} {below : List Frame} {meth : Method} {c : Code} {G : GG} {SB : St} (C : Cx p s m args meth c G RX4 cX4_readVars 2 (some .boolean)) {S : St} {H : Heap} {locs : List Loc} {ls : Array Slot}  {P17 : Int → St → Prop} {k : Int → St → Prop} (hw : Wd G ((injC SB) S) H) (hS : va_S (AG G) s.heap H locs) {xv1 : Int32} {x1 : Int} (xt1 : xv1.toInt = x1) (hl : lv_has ls 2 [(0, .ref (G.2.2 1032)), (1, .int xv1)])  (hP17 : ∀ {H : Heap} {locs : List Loc} {ls : Array Slot} {Sy : St} {yv1 : Int32} {y1 : Int}, yv1.toInt = y1 → Wd G ((injC SB) Sy) H → va_S (AG G) s.heap H locs → lv_has ls 2 [(0, .ref (G.2.2 1032)), (1, .int yv1)] → P17 y1 Sy → W p l e (rmF 3 63) s m args below meth c H locs 0 0 (MQ below (QcI G (injC SB) k) args s 0 0 (AG G)) (F0 m 17 ls [])) (h : wX4_readVars_17_b S x1 P17 k) : W p l e (rmF 3 63) s m args below meth c H locs 0 0 (MQ below (QcI G (injC SB) k) args s 0 0 (AG G)) (F0 m 17 ls []) := by
  refine lv_iload_n C.1.1 C.1.2.1 dX4_readVars_17 rfl (lv_at hl 1 rfl) ?_
  refine y_iconst C dX4_readVars_18 ⟨by decide, by decide⟩ (fun v1 t1 => ?_)
  refine y_icmp_ge C xt1 t1 dX4_readVars_19 (tgt := 67) (by decide) (fun c2 => ?_) (fun c2 => ?_)
  · have h := h.1 c2
    exact uX4_readVars_67 C hw hS  (lv_sub hl [0] rfl)  h
  · have h := h.2 c2
    refine lv_aload_n C.1.1 C.1.2.1 dX4_readVars_22 rfl (lv_at hl 0 rfl) ?_
    refine lv_iload_n C.1.1 C.1.2.1 dX4_readVars_23 rfl (lv_at hl 1 rfl) ?_
    refine y_cVI C (As := [.int xv1]) (rest := []) ml_X4_174 (kX4_readVar l G SB S xt1 h) (ock_4 SB) (T := TX4) (N := 15) rfl (by decide) ⟨(Nat.le_of_ble_eq_true rfl), (Nat.le_of_ble_eq_true rfl)⟩ hl.1 rfl rfl (Nat.le_of_ble_eq_true rfl) hw hS dX4_readVars_24 (fun v3 x_3 S_3 H locs t3 h hw hS => ?_)
    refine y_if_eq C t3 dX4_readVars_27 (tgt := 38) (by decide) (fun c4 => ?_) (fun c4 => ?_)
    · have h := h.1 c4
      refine y_iconst C dX4_readVars_38 ⟨by decide, by decide⟩ (fun v5 t5 => ?_)
      exact y_zret C hw hS t5 (Or.inl rfl) h dX4_readVars_39
    · have h := h.2 c4
      refine lv_aload_n C.1.1 C.1.2.1 dX4_readVars_30 rfl (lv_at hl 0 rfl) ?_
      refine lv_iload_n C.1.1 C.1.2.1 dX4_readVars_31 rfl (lv_at hl 1 rfl) ?_
      refine y_cVI C (As := [.int xv1]) (rest := []) ml_X4_177 (kX4_readBound l G SB S_3 xt1 h) (ock_4 SB) (T := TX4) (N := 15) rfl (by decide) ⟨(Nat.le_of_ble_eq_true rfl), (Nat.le_of_ble_eq_true rfl)⟩ hl.1 rfl rfl (Nat.le_of_ble_eq_true rfl) hw hS dX4_readVars_32 (fun v6 x_6 S_6 H locs t6 h hw hS => ?_)
      refine y_if_ne C t6 dX4_readVars_35 (tgt := 40) (by decide) (fun c7 => ?_) (fun c7 => ?_)
      · have h := h.1 c7
        refine lv_iload_n C.1.1 C.1.2.1 dX4_readVars_40 rfl (lv_at hl 1 rfl) ?_
        refine y_iconst C dX4_readVars_41 ⟨by decide, by decide⟩ (fun v8 t8 => ?_)
        refine y_icmp_eq C xt1 t8 dX4_readVars_42 (tgt := 67) (by decide) (fun c9 => ?_) (fun c9 => ?_)
        · have h := h.1 c9
          exact uX4_readVars_67 C hw hS  (lv_sub hl [0] rfl)  h
        · have h := h.2 c9
          refine lv_aload_n C.1.1 C.1.2.1 dX4_readVars_45 rfl (lv_at hl 0 rfl) ?_
          refine y_getI C fl_X4_60 hw (ock_4 SB) rfl dX4_readVars_46 (fun v10 t10 => ?_)
          refine y_bipush C dX4_readVars_49 ⟨by decide, by decide⟩ (fun v11 t11 => ?_)
          refine y_icmp_eq C t10 t11 dX4_readVars_51 (tgt := 57) (by decide) (fun c12 => ?_) (fun c12 => ?_)
          · have h := h.1 c12
            refine lv_aload_n C.1.1 C.1.2.1 dX4_readVars_57 rfl (lv_at hl 0 rfl) ?_
            refine y_cVV C (As := []) (rest := []) ml_X4_130 (kX4_advance l G SB S_6  h) (ock_4 SB) (T := TX4) (N := 15) rfl (by decide) ⟨(Nat.le_of_ble_eq_true rfl), (Nat.le_of_ble_eq_true rfl)⟩ hl.1 rfl rfl (Nat.le_of_ble_eq_true rfl) hw hS dX4_readVars_58 (fun S_13 H locs h hw hS => ?_)
            obtain ⟨x_14, e14⟩ : ∃ z : Int, z = w32 (x1 + 1) := ⟨_, rfl⟩
            have h := h x_14 e14
            obtain ⟨v14, t14, g14⟩ : ∃ z : Int32, z.toInt = x_14 ∧ xv1 + Int32.ofInt 1 = z := ⟨_, (ti_inc xt1 ⟨by decide, by decide⟩).trans e14.symm, rfl⟩
            refine lv_iinc (v := v14) (lv' := [(1, .int v14), (0, .ref (G.2.2 1032))]) C.1.1 C.1.2.1 dX4_readVars_61 hl (k := 1) rfl g14 (by decide) rfl (fun ls hl => ?_)
            refine lv_goto (tgt := 17) C.1.1 C.1.2.1 dX4_readVars_64 (by decide) ?_
            exact hP17 t14 hw hS (lv_sub hl [1, 0] rfl) h
          · have h := h.2 c12
            refine lv_goto (tgt := 67) C.1.1 C.1.2.1 dX4_readVars_54 (by decide) ?_
            exact uX4_readVars_67 C hw hS  (lv_sub hl [0] rfl)  h
      · have h := h.2 c7
        refine y_iconst C dX4_readVars_38 ⟨by decide, by decide⟩ (fun v15 t15 => ?_)
        exact y_zret C hw hS t15 (Or.inl rfl) h dX4_readVars_39
set_option maxHeartbeats 4000000 in
set_option maxRecDepth 10000 in
theorem uX4_readVars_17 {p : Program} {l : Launch} {e : Env} {s : State} {m : MethodId} {args : Array Value} {below : List Frame} {meth : Method} {c : Code} {G : GG} {SB : St} (C : Cx p s m args meth c G RX4 cX4_readVars 2 (some .boolean)) {S : St} {H : Heap} {locs : List Loc} {ls : Array Slot}  {k : Int → St → Prop} (hw : Wd G ((injC SB) S) H) (hS : va_S (AG G) s.heap H locs) {xv1 : Int32} {x1 : Int} (xt1 : xv1.toInt = x1) (hl : lv_has ls 2 [(0, .ref (G.2.2 1032)), (1, .int xv1)])  (h : wX4_readVars_17 S x1 k) : W p l e (rmF 3 63) s m args below meth c H locs 0 0 (MQ below (QcI G (injC SB) k) args s 0 0 (AG G)) (F0 m 17 ls []) := by
  have key : ∀ (n : Nat) {H : Heap} {locs : List Loc} {ls : Array Slot} {S : St} {xv1 : Int32} {x1 : Int}, xv1.toInt = x1 → Wd G ((injC SB) S) H → va_S (AG G) s.heap H locs → lv_has ls 2 [(0, .ref (G.2.2 1032)), (1, .int xv1)] → itP (fun (P : Int × St → Prop) (a : Int × St) => wX4_readVars_17_b a.2 a.1 (fun b0 b1 => P (b0, b1)) k) n (x1, S) → W p l e (rmF 3 63) s m args below meth c H locs 0 0 (MQ below (QcI G (injC SB) k) args s 0 0 (AG G)) (F0 m 17 ls []) := by
    intro n
    induction n with
    | zero => intro H locs ls S xv1 x1 xt1 hw hS hl h; exact h.elim
    | succ n ih =>
      intro H locs ls S xv1 x1 xt1 hw hS hl h
      exact uX4_readVars_17_b C hw hS xt1 hl  (P17 := fun b0 b1 => itP _ n (b0, b1)) (fun q0 hw hS hl h => ih q0 hw hS hl h) h
  obtain ⟨n, hn⟩ := h
  exact key n xt1 hw hS hl hn
set_option maxHeartbeats 4000000 in
set_option maxRecDepth 10000 in
theorem uX4_readVars_0 {p : Program} {l : Launch} {e : Env} {s : State} {m : MethodId} {args : Array Value} {below : List Frame} {meth : Method} {c : Code} {G : GG} {SB : St} (C : Cx p s m args meth c G RX4 cX4_readVars 2 (some .boolean)) {S : St} {H : Heap} {locs : List Loc} {ls : Array Slot}  {k : Int → St → Prop} (hw : Wd G ((injC SB) S) H) (hS : va_S (AG G) s.heap H locs)  (hl : lv_has ls 2 [(0, .ref (G.2.2 1032))])  (h : wX4_readVars_0 S k) : W p l e (rmF 3 63) s m args below meth c H locs 0 0 (MQ below (QcI G (injC SB) k) args s 0 0 (AG G)) (F0 m 0 ls []) := by
  refine lv_aload_n C.1.1 C.1.2.1 dX4_readVars_0 rfl (lv_at hl 0 rfl) ?_
  refine y_getI C fl_X4_60 hw (ock_4 SB) rfl dX4_readVars_1 (fun v1 t1 => ?_)
  refine y_bipush C dX4_readVars_4 ⟨by decide, by decide⟩ (fun v2 t2 => ?_)
  refine y_icmp_eq C t1 t2 dX4_readVars_6 (tgt := 11) (by decide) (fun c3 => ?_) (fun c3 => ?_)
  · have h := h.1 c3
    refine lv_aload_n C.1.1 C.1.2.1 dX4_readVars_11 rfl (lv_at hl 0 rfl) ?_
    refine y_cVV C (As := []) (rest := []) ml_X4_130 (kX4_advance l G SB S  h) (ock_4 SB) (T := TX4) (N := 15) rfl (by decide) ⟨(Nat.le_of_ble_eq_true rfl), (Nat.le_of_ble_eq_true rfl)⟩ hl.1 rfl rfl (Nat.le_of_ble_eq_true rfl) hw hS dX4_readVars_12 (fun S_4 H locs h hw hS => ?_)
    refine y_iconst C dX4_readVars_15 ⟨by decide, by decide⟩ (fun v5 t5 => ?_)
    refine lv_istore_n (lv' := [(1, .int v5), (0, .ref (G.2.2 1032))]) C.1.1 C.1.2.1 dX4_readVars_16 rfl hl (by decide) rfl (fun ls hl => ?_)
    exact uX4_readVars_17 C hw hS t5 (lv_sub hl [1, 0] rfl)  h
  · have h := h.2 c3
    refine y_iconst C dX4_readVars_9 ⟨by decide, by decide⟩ (fun v6 t6 => ?_)
    exact y_zret C hw hS t6 (Or.inr rfl) h dX4_readVars_10
theorem kX4_readVars (l : Launch) (G : GG) (SB S : St)  {k : Int → St → Prop} (h : wX4_readVars S k) : CnI l yX4_readVars cX4_readVars 2 (some .boolean) 3 63 G (injC SB) [.ref (G.2.2 1032)] S k :=
  cn_body (by decide +kernel) (Nat.le_of_ble_eq_true rfl) (fun p e s m args below meth c ls C hw hl => uX4_readVars_0 C hw va_S.rf  (lv_sub hl [0] rfl) h)
set_option maxHeartbeats 4000000 in
set_option maxRecDepth 10000 in
theorem uX4_otherTypeSeen_0 {p : Program} {l : Launch} {e : Env} {s : State} {m : MethodId} {args : Array Value} {below : List Frame} {meth : Method} {c : Code} {G : GG} {SB : St} (C : Cx p s m args meth c G RX4 cX4_otherTypeSeen 3 (some .int)) {S : St} {H : Heap} {locs : List Loc} {ls : Array Slot}  {k : Int → Prop} (hw : Wd G ((injC SB) S) H) (hS : va_S (AG G) s.heap H locs) {xv1 : Int64} {x1 : Int} (xt1 : xv1.toInt = x1) (hl : lv_has ls 3 [(0, .ref (G.2.2 1032)), (1, .long xv1)])  (h : wX4_otherTypeSeen_0 S x1 k) : W p l e (rmF 1 24) s m args below meth c H locs 0 0 (MQ below (QcI G (injC SB) (fun r u => k r ∧ u = S)) args s 0 0 (AG G)) (F0 m 0 ls []) := by
  refine lv_lload_n C.1.1 C.1.2.1 dX4_otherTypeSeen_0 rfl (lv_at hl 1 rfl) ?_
  refine lv_aload_n C.1.1 C.1.2.1 dX4_otherTypeSeen_1 rfl (lv_at hl 0 rfl) ?_
  obtain ⟨x_1, e1⟩ : ∃ z : Int, z = S 1032 12 := ⟨_, rfl⟩
  obtain ⟨o1, h⟩ := h x_1 e1
  refine y_getO C fl_X4_38 hw (ock_4 SB) rfl e1 o1 dX4_otherTypeSeen_2 ?_
  refine y_getJ C fl_X4_165 hw (oc_of SB o1) rfl dX4_otherTypeSeen_5 (fun v2 t2 => ?_)
  refine y_lcmp C xt1 t2 dX4_otherTypeSeen_8 (fun v3 t3 => ?_)
  refine y_if_ne C t3 dX4_otherTypeSeen_9 (tgt := 16) (by decide) (fun c4 => ?_) (fun c4 => ?_)
  · have c4 := cmp_ne.mp c4
    have h := h.1 c4
    refine lv_aload_n C.1.1 C.1.2.1 dX4_otherTypeSeen_16 rfl (lv_at hl 0 rfl) ?_
    refine lv_lload_n C.1.1 C.1.2.1 dX4_otherTypeSeen_17 rfl (lv_at hl 1 rfl) ?_
    refine y_cVIp C (As := [.long xv1]) (rest := []) ml_X4_199 (kX4_typeSeen l G SB S xt1 h) (ock_4 SB) (T := TX4) (N := 15) rfl (by decide) ⟨(Nat.le_of_ble_eq_true rfl), (Nat.le_of_ble_eq_true rfl)⟩ hl.1 rfl rfl (Nat.le_of_ble_eq_true rfl) hw hS dX4_otherTypeSeen_18 (fun v5 x_5 H locs t5 h hw hS => ?_)
    exact y_iret C hw hS t5 ⟨h, rfl⟩ dX4_otherTypeSeen_21
  · have c4 := cmp_eq.mp c4
    have h := h.2 c4
    refine y_iconst C dX4_otherTypeSeen_12 ⟨by decide, by decide⟩ (fun v6 t6 => ?_)
    refine lv_goto (tgt := 21) C.1.1 C.1.2.1 dX4_otherTypeSeen_13 (by decide) ?_
    exact y_iret C hw hS t6 ⟨h, rfl⟩ dX4_otherTypeSeen_21
theorem kX4_otherTypeSeen (l : Launch) (G : GG) (SB S : St) {xv1 : Int64} {x1 : Int} (xt1 : xv1.toInt = x1) {k : Int → Prop} (h : wX4_otherTypeSeen S x1 k) : CnI l yX4_otherTypeSeen cX4_otherTypeSeen 3 (some .int) 1 24 G (injC SB) [.ref (G.2.2 1032), .long xv1] S (fun r u => k r ∧ u = S) :=
  cn_body (by decide +kernel) (Nat.le_of_ble_eq_true rfl) (fun p e s m args below meth c ls C hw hl => uX4_otherTypeSeen_0 C hw va_S.rf xt1 (lv_sub hl [0, 1] rfl) h)
set_option maxHeartbeats 4000000 in
set_option maxRecDepth 10000 in
theorem uX4_readNest_93 {p : Program} {l : Launch} {e : Env} {s : State} {m : MethodId} {args : Array Value} {below : List Frame} {meth : Method} {c : Code} {G : GG} {SB : St} (C : Cx p s m args meth c G RX4 cX4_readNest 2 (some .boolean)) {S : St} {H : Heap} {locs : List Loc} {ls : Array Slot}  {k : Int → St → Prop} (hw : Wd G ((injC SB) S) H) (hS : va_S (AG G) s.heap H locs)  (hl : lv_has ls 2 [(0, .ref (G.2.2 1032))])  (h : wX4_readNest_93 S k) : W p l e (rmF 2 46) s m args below meth c H locs 0 0 (MQ below (QcI G (injC SB) k) args s 0 0 (AG G)) (F0 m 93 ls []) := by
  refine lv_aload_n C.1.1 C.1.2.1 dX4_readNest_93 rfl (lv_at hl 0 rfl) ?_
  refine y_iconst C dX4_readNest_94 ⟨by decide, by decide⟩ (fun v1 t1 => ?_)
  refine y_cVI C (As := [.int v1]) (rest := []) ml_X4_126 (kX4_fail l G SB S t1 h) (ock_4 SB) (T := TX4) (N := 15) rfl (by decide) ⟨(Nat.le_of_ble_eq_true rfl), (Nat.le_of_ble_eq_true rfl)⟩ hl.1 rfl rfl (Nat.le_of_ble_eq_true rfl) hw hS dX4_readNest_95 (fun v2 x_2 S_2 H locs t2 h hw hS => ?_)
  obtain ⟨z, h⟩ := h
  exact y_zret C hw hS t2 z h dX4_readNest_98
set_option maxHeartbeats 4000000 in
set_option maxRecDepth 10000 in
theorem uX4_readNest_0 {p : Program} {l : Launch} {e : Env} {s : State} {m : MethodId} {args : Array Value} {below : List Frame} {meth : Method} {c : Code} {G : GG} {SB : St} (C : Cx p s m args meth c G RX4 cX4_readNest 2 (some .boolean)) {S : St} {H : Heap} {locs : List Loc} {ls : Array Slot}  {k : Int → St → Prop} (hw : Wd G ((injC SB) S) H) (hS : va_S (AG G) s.heap H locs)  (hl : lv_has ls 2 [(0, .ref (G.2.2 1032))])  (h : wX4_readNest_0 S k) : W p l e (rmF 2 46) s m args below meth c H locs 0 0 (MQ below (QcI G (injC SB) k) args s 0 0 (AG G)) (F0 m 0 ls []) := by
  refine lv_aload_n C.1.1 C.1.2.1 dX4_readNest_0 rfl (lv_at hl 0 rfl) ?_
  obtain ⟨x_1, e1⟩ : ∃ z : Int, z = S 1032 12 := ⟨_, rfl⟩
  obtain ⟨o1, h⟩ := h x_1 e1
  refine y_getO C fl_X4_38 hw (ock_4 SB) rfl e1 o1 dX4_readNest_1 ?_
  refine y_cVIp C (As := []) (rest := []) ml_X4_203 (kX6_isFace l G SB S o1 h) (oc_of SB o1) (T := TX6) (N := 20) rfl (by decide) ⟨(Nat.le_of_ble_eq_true rfl), (Nat.le_of_ble_eq_true rfl)⟩ hl.1 rfl rfl (Nat.le_of_ble_eq_true rfl) hw hS dX4_readNest_4 (fun v2 x_2 H locs t2 h hw hS => ?_)
  refine y_if_ne C t2 dX4_readNest_7 (tgt := 20) (by decide) (fun c3 => ?_) (fun c3 => ?_)
  · have h := h.1 c3
    refine y_iconst C dX4_readNest_20 ⟨by decide, by decide⟩ (fun v4 t4 => ?_)
    exact y_zret C hw hS t4 (Or.inr rfl) h dX4_readNest_21
  · have h := h.2 c3
    refine lv_aload_n C.1.1 C.1.2.1 dX4_readNest_10 rfl (lv_at hl 0 rfl) ?_
    refine y_getI C fl_X4_60 hw (ock_4 SB) rfl dX4_readNest_11 (fun v5 t5 => ?_)
    refine y_sipush C dX4_readNest_14 ⟨by decide, by decide⟩ (fun v6 t6 => ?_)
    refine y_icmp_eq C t5 t6 dX4_readNest_17 (tgt := 22) (by decide) (fun c7 => ?_) (fun c7 => ?_)
    · have h := h.1 c7
      refine lv_aload_n C.1.1 C.1.2.1 dX4_readNest_22 rfl (lv_at hl 0 rfl) ?_
      refine y_cVV C (As := []) (rest := []) ml_X4_130 (kX4_advance l G SB S  h) (ock_4 SB) (T := TX4) (N := 15) rfl (by decide) ⟨(Nat.le_of_ble_eq_true rfl), (Nat.le_of_ble_eq_true rfl)⟩ hl.1 rfl rfl (Nat.le_of_ble_eq_true rfl) hw hS dX4_readNest_23 (fun S_8 H locs h hw hS => ?_)
      refine lv_aload_n C.1.1 C.1.2.1 dX4_readNest_26 rfl (lv_at hl 0 rfl) ?_
      refine y_getI C fl_X4_60 hw (ock_4 SB) rfl dX4_readNest_27 (fun v9 t9 => ?_)
      refine y_iconst C dX4_readNest_30 ⟨by decide, by decide⟩ (fun v10 t10 => ?_)
      refine y_icmp_eq C t9 t10 dX4_readNest_31 (tgt := 39) (by decide) (fun c11 => ?_) (fun c11 => ?_)
      · have h := h.1 c11
        refine lv_aload_n C.1.1 C.1.2.1 dX4_readNest_39 rfl (lv_at hl 0 rfl) ?_
        refine lv_aload_n C.1.1 C.1.2.1 dX4_readNest_40 rfl (lv_at hl 0 rfl) ?_
        refine y_getJ C fl_X4_94 hw (ock_4 SB) rfl dX4_readNest_41 (fun v12 t12 => ?_)
        refine y_cVIp C (As := [.long v12]) (rest := []) ml_X4_206 (kX4_otherTypeSeen l G SB S_8 t12 h) (ock_4 SB) (T := TX4) (N := 15) rfl (by decide) ⟨(Nat.le_of_ble_eq_true rfl), (Nat.le_of_ble_eq_true rfl)⟩ hl.1 rfl rfl (Nat.le_of_ble_eq_true rfl) hw hS dX4_readNest_44 (fun v13 x_13 H locs t13 h hw hS => ?_)
        refine lv_istore_n (lv' := [(1, .int v13), (0, .ref (G.2.2 1032))]) C.1.1 C.1.2.1 dX4_readNest_47 rfl hl (by decide) rfl (fun ls hl => ?_)
        refine lv_iload_n C.1.1 C.1.2.1 dX4_readNest_48 rfl (lv_at hl 0 rfl) ?_
        refine y_iconst C dX4_readNest_49 ⟨by decide, by decide⟩ (fun v14 t14 => ?_)
        refine y_icmp_ne C t13 t14 dX4_readNest_50 (tgt := 59) (by decide) (fun c15 => ?_) (fun c15 => ?_)
        · have h := h.1 c15
          refine lv_aload_n C.1.1 C.1.2.1 dX4_readNest_59 rfl (lv_at hl 1 rfl) ?_
          obtain ⟨x_16, e16⟩ : ∃ z : Int, z = S_8 1032 3 := ⟨_, rfl⟩
          obtain ⟨o16, h⟩ := h x_16 e16
          refine y_getO C fl_X4_19 hw (ock_4 SB) rfl e16 o16 dX4_readNest_60 ?_
          refine lv_iload_n C.1.1 C.1.2.1 dX4_readNest_63 rfl (lv_at hl 0 rfl) ?_
          refine lv_aload_n C.1.1 C.1.2.1 dX4_readNest_64 rfl (lv_at hl 1 rfl) ?_
          obtain ⟨x_17, e17⟩ : ∃ z : Int, z = S_8 1032 12 := ⟨_, rfl⟩
          obtain ⟨o17, h⟩ := h x_17 e17
          refine y_getO C fl_X4_38 hw (ock_4 SB) rfl e17 o17 dX4_readNest_65 ?_
          refine y_getI C fl_X4_189 hw (oc_of SB o17) rfl dX4_readNest_68 (fun v18 t18 => ?_)
          refine y_cVIp C (As := [.int v13, .int v18]) (rest := []) ml_X4_209 (kX2_samePackage l G SB S_8 o16 t13 t18 h) (oc_of SB o16) (T := TX2) (N := 9) rfl (by decide) ⟨(Nat.le_of_ble_eq_true rfl), (Nat.le_of_ble_eq_true rfl)⟩ hl.1 rfl rfl (Nat.le_of_ble_eq_true rfl) hw hS dX4_readNest_71 (fun v19 x_19 H locs t19 h hw hS => ?_)
          refine y_if_eq C t19 dX4_readNest_74 (tgt := 93) (by decide) (fun c20 => ?_) (fun c20 => ?_)
          · have h := h.1 c20
            exact uX4_readNest_93 C hw hS  (lv_sub hl [1] rfl)  h
          · have h := h.2 c20
            refine lv_aload_n C.1.1 C.1.2.1 dX4_readNest_77 rfl (lv_at hl 1 rfl) ?_
            obtain ⟨x_21, e21⟩ : ∃ z : Int, z = S_8 1032 3 := ⟨_, rfl⟩
            obtain ⟨o21, h⟩ := h x_21 e21
            refine y_getO C fl_X4_19 hw (ock_4 SB) rfl e21 o21 dX4_readNest_78 ?_
            refine y_getA C fl_X4_32 hw (oc_of SB o21) rfl (o := 1) rfl dX4_readNest_81 ?_
            refine lv_iload_n C.1.1 C.1.2.1 dX4_readNest_84 rfl (lv_at hl 0 rfl) ?_
            obtain ⟨b23, h⟩ := h
            obtain ⟨x_23, e23⟩ : ∃ z : Int, z = x_21 + 6 + 6 * x_13 := ⟨_, rfl⟩
            have h := h x_23 e23
            have o23 : isO 6 x_23 := isO_ty o21 b23 e23
            refine y_tyO C hw o21 t13 b23 e23 dX4_readNest_85 ?_
            refine y_getI C fl_X4_213 hw (oc_of SB o23) rfl dX4_readNest_86 (fun v24 t24 => ?_)
            refine lv_iload_n C.1.1 C.1.2.1 dX4_readNest_89 rfl (lv_at hl 0 rfl) ?_
            refine y_icmp_eq C t24 t13 dX4_readNest_90 (tgt := 99) (by decide) (fun c25 => ?_) (fun c25 => ?_)
            · have h := h.1 c25
              refine lv_aload_n C.1.1 C.1.2.1 dX4_readNest_99 rfl (lv_at hl 1 rfl) ?_
              obtain ⟨x_26, e26⟩ : ∃ z : Int, z = S_8 1032 12 := ⟨_, rfl⟩
              obtain ⟨o26, h⟩ := h x_26 e26
              refine y_getO C fl_X4_38 hw (ock_4 SB) rfl e26 o26 dX4_readNest_100 ?_
              refine lv_iload_n C.1.1 C.1.2.1 dX4_readNest_103 rfl (lv_at hl 0 rfl) ?_
              obtain ⟨S_27, e27⟩ : ∃ z : St, z = up S_8 x_26 5 x_13 := ⟨_, rfl⟩
              have h := h S_27 e27
              refine y_putI C fl_X4_213 fp_6_5 hw hS (oc_of SB o26) rfl t13 dX4_readNest_104 (fun H locs hw hS => ?_)
              have hw : Wd G ((injC SB) S_27) H := by rw [e27]; exact hw
              refine lv_aload_n C.1.1 C.1.2.1 dX4_readNest_107 rfl (lv_at hl 1 rfl) ?_
              refine y_cVV C (As := []) (rest := []) ml_X4_130 (kX4_advance l G SB S_27  h) (ock_4 SB) (T := TX4) (N := 15) rfl (by decide) ⟨(Nat.le_of_ble_eq_true rfl), (Nat.le_of_ble_eq_true rfl)⟩ hl.1 rfl rfl (Nat.le_of_ble_eq_true rfl) hw hS dX4_readNest_108 (fun S_28 H locs h hw hS => ?_)
              refine y_iconst C dX4_readNest_111 ⟨by decide, by decide⟩ (fun v29 t29 => ?_)
              exact y_zret C hw hS t29 (Or.inr rfl) h dX4_readNest_112
            · have h := h.2 c25
              exact uX4_readNest_93 C hw hS  (lv_sub hl [1] rfl)  h
        · have h := h.2 c15
          refine lv_aload_n C.1.1 C.1.2.1 dX4_readNest_53 rfl (lv_at hl 1 rfl) ?_
          refine y_iconst C dX4_readNest_54 ⟨by decide, by decide⟩ (fun v30 t30 => ?_)
          refine y_cVI C (As := [.int v30]) (rest := []) ml_X4_126 (kX4_fail l G SB S_8 t30 h) (ock_4 SB) (T := TX4) (N := 15) rfl (by decide) ⟨(Nat.le_of_ble_eq_true rfl), (Nat.le_of_ble_eq_true rfl)⟩ hl.1 rfl rfl (Nat.le_of_ble_eq_true rfl) hw hS dX4_readNest_55 (fun v31 x_31 S_31 H locs t31 h hw hS => ?_)
          obtain ⟨z, h⟩ := h
          exact y_zret C hw hS t31 z h dX4_readNest_58
      · have h := h.2 c11
        refine lv_aload_n C.1.1 C.1.2.1 dX4_readNest_34 rfl (lv_at hl 0 rfl) ?_
        refine y_cVI C (As := []) (rest := []) ml_X4_119 (kX4_misfit l G SB S_8  h) (ock_4 SB) (T := TX4) (N := 15) rfl (by decide) ⟨(Nat.le_of_ble_eq_true rfl), (Nat.le_of_ble_eq_true rfl)⟩ hl.1 rfl rfl (Nat.le_of_ble_eq_true rfl) hw hS dX4_readNest_35 (fun v32 x_32 S_32 H locs t32 h hw hS => ?_)
        obtain ⟨z, h⟩ := h
        exact y_zret C hw hS t32 z h dX4_readNest_38
    · have h := h.2 c7
      refine y_iconst C dX4_readNest_20 ⟨by decide, by decide⟩ (fun v33 t33 => ?_)
      exact y_zret C hw hS t33 (Or.inr rfl) h dX4_readNest_21
theorem kX4_readNest (l : Launch) (G : GG) (SB S : St)  {k : Int → St → Prop} (h : wX4_readNest S k) : CnI l yX4_readNest cX4_readNest 2 (some .boolean) 2 46 G (injC SB) [.ref (G.2.2 1032)] S k :=
  cn_body (by decide +kernel) (Nat.le_of_ble_eq_true rfl) (fun p e s m args below meth c ls C hw hl => uX4_readNest_0 C hw va_S.rf  (lv_sub hl [0] rfl) h)
set_option maxHeartbeats 4000000 in
set_option maxRecDepth 10000 in
theorem uX4_readHead_51 {p : Program} {l : Launch} {e : Env} {s : State} {m : MethodId} {args : Array Value} {below : List Frame} {meth : Method} {c : Code} {G : GG} {SB : St} (C : Cx p s m args meth c G RX4 cX4_readHead 1 (some .boolean)) {S : St} {H : Heap} {locs : List Loc} {ls : Array Slot}  {k : Int → St → Prop} (hw : Wd G ((injC SB) S) H) (hS : va_S (AG G) s.heap H locs) {sv1 : Int32} {s1 : Int} (st1 : sv1.toInt = s1) (hl : lv_has ls 1 [])  (h : wX4_readHead_51 S s1 k) : W p l e (rmF 4 84) s m args below meth c H locs 0 0 (MQ below (QcI G (injC SB) k) args s 0 0 (AG G)) (F0 m 51 ls [.int sv1, .ref (G.2.2 1032)]) := by
  refine y_cVI C (As := [.int sv1]) (rest := []) ml_X4_143 (kX4_take l G SB S st1 h) (ock_4 SB) (T := TX4) (N := 15) rfl (by decide) ⟨(Nat.le_of_ble_eq_true rfl), (Nat.le_of_ble_eq_true rfl)⟩ hl.1 rfl rfl (Nat.le_of_ble_eq_true rfl) hw hS dX4_readHead_51 (fun v1 x_1 S_1 H locs t1 h hw hS => ?_)
  obtain ⟨z, h⟩ := h
  exact y_zret C hw hS t1 z h dX4_readHead_54
set_option maxHeartbeats 4000000 in
set_option maxRecDepth 10000 in
theorem uX4_readHead_31 {p : Program} {l : Launch} {e : Env} {s : State} {m : MethodId} {args : Array Value} {below : List Frame} {meth : Method} {c : Code} {G : GG} {SB : St} (C : Cx p s m args meth c G RX4 cX4_readHead 1 (some .boolean)) {S : St} {H : Heap} {locs : List Loc} {ls : Array Slot}  {k : Int → St → Prop} (hw : Wd G ((injC SB) S) H) (hS : va_S (AG G) s.heap H locs) {sv1 : Int32} {s1 : Int} (st1 : sv1.toInt = s1) (hl : lv_has ls 1 [(0, .ref (G.2.2 1032))])  (h : wX4_readHead_31 S s1 k) : W p l e (rmF 4 84) s m args below meth c H locs 0 0 (MQ below (QcI G (injC SB) k) args s 0 0 (AG G)) (F0 m 31 ls [.int sv1, .ref (G.2.2 1032)]) := by
  obtain ⟨S_1, e1⟩ : ∃ z : St, z = up S 1032 11 s1 := ⟨_, rfl⟩
  have h := h S_1 e1
  refine y_putI C fl_X4_56 fp_4_11 hw hS (ock_4 SB) rfl st1 dX4_readHead_31 (fun H locs hw hS => ?_)
  have hw : Wd G ((injC SB) S_1) H := by rw [e1]; exact hw
  refine lv_aload_n C.1.1 C.1.2.1 dX4_readHead_34 rfl (lv_at hl 0 rfl) ?_
  refine lv_aload_n C.1.1 C.1.2.1 dX4_readHead_35 rfl (lv_at hl 0 rfl) ?_
  refine y_getI C fl_X4_60 hw (ock_4 SB) rfl dX4_readHead_36 (fun v2 t2 => ?_)
  refine y_bipush C dX4_readHead_39 ⟨by decide, by decide⟩ (fun v3 t3 => ?_)
  refine y_icmp_ne C t2 t3 dX4_readHead_41 (tgt := 49) (by decide) (fun c4 => ?_) (fun c4 => ?_)
  · have h := h.1 c4
    refine y_bipush C dX4_readHead_49 ⟨by decide, by decide⟩ (fun v5 t5 => ?_)
    exact uX4_readHead_51 C hw hS t5 (lv_sub hl [] rfl)  h
  · have h := h.2 c4
    refine y_bipush C dX4_readHead_44 ⟨by decide, by decide⟩ (fun v6 t6 => ?_)
    refine lv_goto (tgt := 51) C.1.1 C.1.2.1 dX4_readHead_46 (by decide) ?_
    exact uX4_readHead_51 C hw hS t6 (lv_sub hl [] rfl)  h
set_option maxHeartbeats 4000000 in
set_option maxRecDepth 10000 in
theorem uX4_readHead_0 {p : Program} {l : Launch} {e : Env} {s : State} {m : MethodId} {args : Array Value} {below : List Frame} {meth : Method} {c : Code} {G : GG} {SB : St} (C : Cx p s m args meth c G RX4 cX4_readHead 1 (some .boolean)) {S : St} {H : Heap} {locs : List Loc} {ls : Array Slot}  {k : Int → St → Prop} (hw : Wd G ((injC SB) S) H) (hS : va_S (AG G) s.heap H locs)  (hl : lv_has ls 1 [(0, .ref (G.2.2 1032))])  (h : wX4_readHead_0 S k) : W p l e (rmF 4 84) s m args below meth c H locs 0 0 (MQ below (QcI G (injC SB) k) args s 0 0 (AG G)) (F0 m 0 ls []) := by
  refine lv_aload_n C.1.1 C.1.2.1 dX4_readHead_0 rfl (lv_at hl 0 rfl) ?_
  refine y_cVI C (As := []) (rest := []) ml_X4_168 (kX4_readVars l G SB S  h) (ock_4 SB) (T := TX4) (N := 15) rfl (by decide) ⟨(Nat.le_of_ble_eq_true rfl), (Nat.le_of_ble_eq_true rfl)⟩ hl.1 rfl rfl (Nat.le_of_ble_eq_true rfl) hw hS dX4_readHead_1 (fun v1 x_1 S_1 H locs t1 h hw hS => ?_)
  refine y_if_eq C t1 dX4_readHead_4 (tgt := 14) (by decide) (fun c2 => ?_) (fun c2 => ?_)
  · have h := h.1 c2
    refine y_iconst C dX4_readHead_14 ⟨by decide, by decide⟩ (fun v3 t3 => ?_)
    exact y_zret C hw hS t3 (Or.inl rfl) h dX4_readHead_15
  · have h := h.2 c2
    refine lv_aload_n C.1.1 C.1.2.1 dX4_readHead_7 rfl (lv_at hl 0 rfl) ?_
    refine y_cVI C (As := []) (rest := []) ml_X4_171 (kX4_readNest l G SB S_1  h) (ock_4 SB) (T := TX4) (N := 15) rfl (by decide) ⟨(Nat.le_of_ble_eq_true rfl), (Nat.le_of_ble_eq_true rfl)⟩ hl.1 rfl rfl (Nat.le_of_ble_eq_true rfl) hw hS dX4_readHead_8 (fun v4 x_4 S_4 H locs t4 h hw hS => ?_)
    refine y_if_ne C t4 dX4_readHead_11 (tgt := 16) (by decide) (fun c5 => ?_) (fun c5 => ?_)
    · have h := h.1 c5
      refine lv_aload_n C.1.1 C.1.2.1 dX4_readHead_16 rfl (lv_at hl 0 rfl) ?_
      refine lv_aload_n C.1.1 C.1.2.1 dX4_readHead_17 rfl (lv_at hl 0 rfl) ?_
      refine y_getI C fl_X4_60 hw (ock_4 SB) rfl dX4_readHead_18 (fun v6 t6 => ?_)
      refine y_bipush C dX4_readHead_21 ⟨by decide, by decide⟩ (fun v7 t7 => ?_)
      refine y_icmp_ne C t6 t7 dX4_readHead_23 (tgt := 30) (by decide) (fun c8 => ?_) (fun c8 => ?_)
      · have h := h.1 c8
        refine y_iconst C dX4_readHead_30 ⟨by decide, by decide⟩ (fun v9 t9 => ?_)
        exact uX4_readHead_31 C hw hS t9 (lv_sub hl [0] rfl)  h
      · have h := h.2 c8
        refine y_iconst C dX4_readHead_26 ⟨by decide, by decide⟩ (fun v10 t10 => ?_)
        refine lv_goto (tgt := 31) C.1.1 C.1.2.1 dX4_readHead_27 (by decide) ?_
        exact uX4_readHead_31 C hw hS t10 (lv_sub hl [0] rfl)  h
    · have h := h.2 c5
      refine y_iconst C dX4_readHead_14 ⟨by decide, by decide⟩ (fun v11 t11 => ?_)
      exact y_zret C hw hS t11 (Or.inl rfl) h dX4_readHead_15
theorem kX4_readHead (l : Launch) (G : GG) (SB S : St)  {k : Int → St → Prop} (h : wX4_readHead S k) : CnI l yX4_readHead cX4_readHead 1 (some .boolean) 4 84 G (injC SB) [.ref (G.2.2 1032)] S k :=
  cn_body (by decide +kernel) (Nat.le_of_ble_eq_true rfl) (fun p e s m args below meth c ls C hw hl => uX4_readHead_0 C hw va_S.rf  (lv_sub hl [0] rfl) h)
set_option maxHeartbeats 4000000 in
set_option maxRecDepth 10000 in
theorem uX4_readRef_101 {p : Program} {l : Launch} {e : Env} {s : State} {m : MethodId} {args : Array Value} {below : List Frame} {meth : Method} {c : Code} {G : GG} {SB : St} (C : Cx p s m args meth c G RX4 cX4_readRef 2 (some .boolean)) {S : St} {H : Heap} {locs : List Loc} {ls : Array Slot}  {k : Int → St → Prop} (hw : Wd G ((injC SB) S) H) (hS : va_S (AG G) s.heap H locs)  (hl : lv_has ls 2 [(0, .ref (G.2.2 1032))])  (h : wX4_readRef_101 S k) : W p l e (rmF 2 46) s m args below meth c H locs 0 0 (MQ below (QcI G (injC SB) k) args s 0 0 (AG G)) (F0 m 101 ls []) := by
  refine lv_aload_n C.1.1 C.1.2.1 dX4_readRef_101 rfl (lv_at hl 0 rfl) ?_
  refine y_iconst C dX4_readRef_102 ⟨by decide, by decide⟩ (fun v1 t1 => ?_)
  refine y_cVI C (As := [.int v1]) (rest := []) ml_X4_126 (kX4_fail l G SB S t1 h) (ock_4 SB) (T := TX4) (N := 15) rfl (by decide) ⟨(Nat.le_of_ble_eq_true rfl), (Nat.le_of_ble_eq_true rfl)⟩ hl.1 rfl rfl (Nat.le_of_ble_eq_true rfl) hw hS dX4_readRef_103 (fun v2 x_2 S_2 H locs t2 h hw hS => ?_)
  obtain ⟨z, h⟩ := h
  exact y_zret C hw hS t2 z h dX4_readRef_106
set_option maxHeartbeats 4000000 in
set_option maxRecDepth 10000 in
theorem uX4_readRef_190 {p : Program} {l : Launch} {e : Env} {s : State} {m : MethodId} {args : Array Value} {below : List Frame} {meth : Method} {c : Code} {G : GG} {SB : St} (C : Cx p s m args meth c G RX4 cX4_readRef 2 (some .boolean)) {S : St} {H : Heap} {locs : List Loc} {ls : Array Slot}  {k : Int → St → Prop} (hw : Wd G ((injC SB) S) H) (hS : va_S (AG G) s.heap H locs)  (hl : lv_has ls 2 [(0, .ref (G.2.2 1032))])  (h : wX4_readRef_190 S k) : W p l e (rmF 2 46) s m args below meth c H locs 0 0 (MQ below (QcI G (injC SB) k) args s 0 0 (AG G)) (F0 m 190 ls []) := by
  refine lv_aload_n C.1.1 C.1.2.1 dX4_readRef_190 rfl (lv_at hl 0 rfl) ?_
  refine y_cVV C (As := []) (rest := []) ml_X4_130 (kX4_advance l G SB S  h) (ock_4 SB) (T := TX4) (N := 15) rfl (by decide) ⟨(Nat.le_of_ble_eq_true rfl), (Nat.le_of_ble_eq_true rfl)⟩ hl.1 rfl rfl (Nat.le_of_ble_eq_true rfl) hw hS dX4_readRef_191 (fun S_1 H locs h hw hS => ?_)
  refine y_iconst C dX4_readRef_194 ⟨by decide, by decide⟩ (fun v2 t2 => ?_)
  exact y_zret C hw hS t2 (Or.inr rfl) h dX4_readRef_195
set_option maxHeartbeats 4000000 in
set_option maxRecDepth 10000 in
theorem uX4_readRef_107 {p : Program} {l : Launch} {e : Env} {s : State} {m : MethodId} {args : Array Value} {below : List Frame} {meth : Method} {c : Code} {G : GG} {SB : St} (C : Cx p s m args meth c G RX4 cX4_readRef 2 (some .boolean)) {S : St} {H : Heap} {locs : List Loc} {ls : Array Slot}  {k : Int → St → Prop} (hw : Wd G ((injC SB) S) H) (hS : va_S (AG G) s.heap H locs) {xv1 : Int32} {x1 : Int} (xt1 : xv1.toInt = x1) (hl : lv_has ls 2 [(0, .ref (G.2.2 1032)), (1, .int xv1)])  (h : wX4_readRef_107 S x1 k) : W p l e (rmF 2 46) s m args below meth c H locs 0 0 (MQ below (QcI G (injC SB) k) args s 0 0 (AG G)) (F0 m 107 ls []) := by
  refine lv_aload_n C.1.1 C.1.2.1 dX4_readRef_107 rfl (lv_at hl 0 rfl) ?_
  obtain ⟨x_1, e1⟩ : ∃ z : Int, z = S 1032 12 := ⟨_, rfl⟩
  obtain ⟨o1, h⟩ := h x_1 e1
  refine y_getO C fl_X4_38 hw (ock_4 SB) rfl e1 o1 dX4_readRef_108 ?_
  refine y_getI C fl_X4_222 hw (oc_of SB o1) rfl dX4_readRef_111 (fun v2 t2 => ?_)
  refine y_iconst C dX4_readRef_114 ⟨by decide, by decide⟩ (fun v3 t3 => ?_)
  refine y_icmp_lt C t2 t3 dX4_readRef_115 (tgt := 125) (by decide) (fun c4 => ?_) (fun c4 => ?_)
  · have h := h.1 c4
    refine lv_aload_n C.1.1 C.1.2.1 dX4_readRef_125 rfl (lv_at hl 0 rfl) ?_
    obtain ⟨x_5, e5⟩ : ∃ z : Int, z = S 1032 12 := ⟨_, rfl⟩
    obtain ⟨o5, h⟩ := h x_5 e5
    refine y_getO C fl_X4_38 hw (ock_4 SB) rfl e5 o5 dX4_readRef_126 ?_
    refine y_getA C fl_X4_225 hw (oc_of SB o5) rfl (o := 3) rfl dX4_readRef_129 ?_
    refine lv_aload_n C.1.1 C.1.2.1 dX4_readRef_132 rfl (lv_at hl 0 rfl) ?_
    obtain ⟨x_7, e7⟩ : ∃ z : Int, z = S 1032 12 := ⟨_, rfl⟩
    obtain ⟨o7, h⟩ := h x_7 e7
    refine y_getO C fl_X4_38 hw (ock_4 SB) rfl e7 o7 dX4_readRef_133 ?_
    refine y_getI C fl_X4_222 hw (oc_of SB o7) rfl dX4_readRef_136 (fun v8 t8 => ?_)
    refine lv_aload_n C.1.1 C.1.2.1 dX4_readRef_139 rfl (lv_at hl 0 rfl) ?_
    refine y_getI C fl_X4_216 hw (ock_4 SB) rfl dX4_readRef_140 (fun v9 t9 => ?_)
    obtain ⟨b10, h⟩ := h
    obtain ⟨S_10, e10⟩ : ∃ z : St, z = up S (x_5 + 3) (S x_7 9) (S 1032 13) := ⟨_, rfl⟩
    have h := h S_10 e10
    refine y_iast C hw hS (ac_6_10 SB o5) t8 t9 b10 dX4_readRef_143 (fun H locs hw hS => ?_)
    have hw : Wd G ((injC SB) S_10) H := by rw [e10]; exact hw
    refine lv_aload_n C.1.1 C.1.2.1 dX4_readRef_144 rfl (lv_at hl 0 rfl) ?_
    obtain ⟨x_11, e11⟩ : ∃ z : Int, z = S_10 1032 12 := ⟨_, rfl⟩
    obtain ⟨o11, h⟩ := h x_11 e11
    refine y_getO C fl_X4_38 hw (ock_4 SB) rfl e11 o11 dX4_readRef_145 ?_
    refine lv_dup C.1.1 C.1.2.1 dX4_readRef_148 rfl ?_
    refine y_getI C fl_X4_222 hw (oc_of SB o11) rfl dX4_readRef_149 (fun v12 t12 => ?_)
    refine y_iconst C dX4_readRef_152 ⟨by decide, by decide⟩ (fun v13 t13 => ?_)
    refine y_iadd C t12 t13 dX4_readRef_153 (fun v14 t14 => ?_)
    obtain ⟨S_15, e15⟩ : ∃ z : St, z = up S_10 x_11 9 (w32 (S_10 x_11 9 + 1)) := ⟨_, rfl⟩
    have h := h S_15 e15
    refine y_putI C fl_X4_222 fp_6_9 hw hS (oc_of SB o11) rfl t14 dX4_readRef_154 (fun H locs hw hS => ?_)
    have hw : Wd G ((injC SB) S_15) H := by rw [e15]; exact hw
    refine lv_aload_n C.1.1 C.1.2.1 dX4_readRef_157 rfl (lv_at hl 0 rfl) ?_
    obtain ⟨x_16, e16⟩ : ∃ z : Int, z = S_15 1032 12 := ⟨_, rfl⟩
    obtain ⟨o16, h⟩ := h x_16 e16
    refine y_getO C fl_X4_38 hw (ock_4 SB) rfl e16 o16 dX4_readRef_158 ?_
    refine lv_dup C.1.1 C.1.2.1 dX4_readRef_161 rfl ?_
    refine y_getI C fl_X4_228 hw (oc_of SB o16) rfl dX4_readRef_162 (fun v17 t17 => ?_)
    refine y_iconst C dX4_readRef_165 ⟨by decide, by decide⟩ (fun v18 t18 => ?_)
    refine lv_aload_n C.1.1 C.1.2.1 dX4_readRef_166 rfl (lv_at hl 0 rfl) ?_
    refine y_getI C fl_X4_216 hw (ock_4 SB) rfl dX4_readRef_167 (fun v19 t19 => ?_)
    refine y_ishl C t18 t19 dX4_readRef_170 (fun v20 t20 => ?_)
    refine y_ior C t17 t20 dX4_readRef_171 (fun v21 t21 => ?_)
    obtain ⟨S_22, e22⟩ : ∃ z : St, z = up S_15 x_16 14 (or32 (S_15 x_16 14) (shl32 1 (S_15 1032 13))) := ⟨_, rfl⟩
    have h := h S_22 e22
    refine y_putI C fl_X4_228 fp_6_14 hw hS (oc_of SB o16) rfl t21 dX4_readRef_172 (fun H locs hw hS => ?_)
    have hw : Wd G ((injC SB) S_22) H := by rw [e22]; exact hw
    refine lv_iload_n C.1.1 C.1.2.1 dX4_readRef_175 rfl (lv_at hl 1 rfl) ?_
    refine y_if_eq C xt1 dX4_readRef_176 (tgt := 190) (by decide) (fun c23 => ?_) (fun c23 => ?_)
    · have h := h.1 c23
      exact uX4_readRef_190 C hw hS  (lv_sub hl [0] rfl)  h
    · have h := h.2 c23
      refine lv_aload_n C.1.1 C.1.2.1 dX4_readRef_179 rfl (lv_at hl 0 rfl) ?_
      obtain ⟨x_24, e24⟩ : ∃ z : Int, z = S_22 1032 12 := ⟨_, rfl⟩
      obtain ⟨o24, h⟩ := h x_24 e24
      refine y_getO C fl_X4_38 hw (ock_4 SB) rfl e24 o24 dX4_readRef_180 ?_
      refine lv_aload_n C.1.1 C.1.2.1 dX4_readRef_183 rfl (lv_at hl 0 rfl) ?_
      refine y_getI C fl_X4_216 hw (ock_4 SB) rfl dX4_readRef_184 (fun v25 t25 => ?_)
      obtain ⟨S_26, e26⟩ : ∃ z : St, z = up S_22 x_24 11 (S_22 1032 13) := ⟨_, rfl⟩
      have h := h S_26 e26
      refine y_putI C fl_X4_231 fp_6_11 hw hS (oc_of SB o24) rfl t25 dX4_readRef_187 (fun H locs hw hS => ?_)
      have hw : Wd G ((injC SB) S_26) H := by rw [e26]; exact hw
      exact uX4_readRef_190 C hw hS  (lv_sub hl [0] rfl)  h
  · have h := h.2 c4
    refine lv_aload_n C.1.1 C.1.2.1 dX4_readRef_118 rfl (lv_at hl 0 rfl) ?_
    refine y_bipush C dX4_readRef_119 ⟨by decide, by decide⟩ (fun v27 t27 => ?_)
    refine y_cVI C (As := [.int v27]) (rest := []) ml_X4_126 (kX4_fail l G SB S t27 h) (ock_4 SB) (T := TX4) (N := 15) rfl (by decide) ⟨(Nat.le_of_ble_eq_true rfl), (Nat.le_of_ble_eq_true rfl)⟩ hl.1 rfl rfl (Nat.le_of_ble_eq_true rfl) hw hS dX4_readRef_121 (fun v28 x_28 S_28 H locs t28 h hw hS => ?_)
    obtain ⟨z, h⟩ := h
    exact y_zret C hw hS t28 z h dX4_readRef_124
set_option maxHeartbeats 4000000 in
set_option maxRecDepth 10000 in
theorem uX4_readRef_62 {p : Program} {l : Launch} {e : Env} {s : State} {m : MethodId} {args : Array Value} {below : List Frame} {meth : Method} {c : Code} {G : GG} {SB : St} (C : Cx p s m args meth c G RX4 cX4_readRef 2 (some .boolean)) {S : St} {H : Heap} {locs : List Loc} {ls : Array Slot}  {k : Int → St → Prop} (hw : Wd G ((injC SB) S) H) (hS : va_S (AG G) s.heap H locs) {sv0 : Int32} {s0 : Int} (st0 : sv0.toInt = s0) (hl : lv_has ls 2 [(0, .ref (G.2.2 1032))])  (h : wX4_readRef_62 S s0 k) : W p l e (rmF 2 46) s m args below meth c H locs 0 0 (MQ below (QcI G (injC SB) k) args s 0 0 (AG G)) (F0 m 62 ls [.int sv0]) := by
  refine lv_istore_n (lv' := [(1, .int sv0), (0, .ref (G.2.2 1032))]) C.1.1 C.1.2.1 dX4_readRef_62 rfl hl (by decide) rfl (fun ls hl => ?_)
  refine lv_aload_n C.1.1 C.1.2.1 dX4_readRef_63 rfl (lv_at hl 1 rfl) ?_
  obtain ⟨x_1, e1⟩ : ∃ z : Int, z = S 1032 12 := ⟨_, rfl⟩
  obtain ⟨o1, h⟩ := h x_1 e1
  refine y_getO C fl_X4_38 hw (ock_4 SB) rfl e1 o1 dX4_readRef_64 ?_
  refine lv_aload_n C.1.1 C.1.2.1 dX4_readRef_67 rfl (lv_at hl 1 rfl) ?_
  refine y_getI C fl_X4_216 hw (ock_4 SB) rfl dX4_readRef_68 (fun v2 t2 => ?_)
  refine y_cVIp C (As := [.int v2]) (rest := []) ml_X4_219 (kX6_hasRef l G SB S o1 t2 h) (oc_of SB o1) (T := TX6) (N := 20) rfl (by decide) ⟨(Nat.le_of_ble_eq_true rfl), (Nat.le_of_ble_eq_true rfl)⟩ hl.1 rfl rfl (Nat.le_of_ble_eq_true rfl) hw hS dX4_readRef_71 (fun v3 x_3 H locs t3 h hw hS => ?_)
  refine y_if_ne C t3 dX4_readRef_74 (tgt := 101) (by decide) (fun c4 => ?_) (fun c4 => ?_)
  · have h := h.1 c4
    exact uX4_readRef_101 C hw hS  (lv_sub hl [1] rfl)  h
  · have h := h.2 c4
    refine lv_iload_n C.1.1 C.1.2.1 dX4_readRef_77 rfl (lv_at hl 0 rfl) ?_
    refine y_if_eq C st0 dX4_readRef_78 (tgt := 107) (by decide) (fun c5 => ?_) (fun c5 => ?_)
    · have h := h.1 c5
      exact uX4_readRef_107 C hw hS st0 (lv_sub hl [1, 0] rfl)  h
    · have h := h.2 c5
      refine lv_aload_n C.1.1 C.1.2.1 dX4_readRef_81 rfl (lv_at hl 1 rfl) ?_
      obtain ⟨x_6, e6⟩ : ∃ z : Int, z = S 1032 12 := ⟨_, rfl⟩
      obtain ⟨o6, h⟩ := h x_6 e6
      refine y_getO C fl_X4_38 hw (ock_4 SB) rfl e6 o6 dX4_readRef_82 ?_
      refine y_cVIp C (As := []) (rest := []) ml_X4_203 (kX6_isFace l G SB S o6 h) (oc_of SB o6) (T := TX6) (N := 20) rfl (by decide) ⟨(Nat.le_of_ble_eq_true rfl), (Nat.le_of_ble_eq_true rfl)⟩ hl.1 rfl rfl (Nat.le_of_ble_eq_true rfl) hw hS dX4_readRef_85 (fun v7 x_7 H locs t7 h hw hS => ?_)
      refine y_if_ne C t7 dX4_readRef_88 (tgt := 101) (by decide) (fun c8 => ?_) (fun c8 => ?_)
      · have h := h.1 c8
        exact uX4_readRef_101 C hw hS  (lv_sub hl [1] rfl)  h
      · have h := h.2 c8
        refine lv_aload_n C.1.1 C.1.2.1 dX4_readRef_91 rfl (lv_at hl 1 rfl) ?_
        obtain ⟨x_9, e9⟩ : ∃ z : Int, z = S 1032 12 := ⟨_, rfl⟩
        obtain ⟨o9, h⟩ := h x_9 e9
        refine y_getO C fl_X4_38 hw (ock_4 SB) rfl e9 o9 dX4_readRef_92 ?_
        refine y_getI C fl_X4_222 hw (oc_of SB o9) rfl dX4_readRef_95 (fun v10 t10 => ?_)
        refine y_if_le C t10 dX4_readRef_98 (tgt := 107) (by decide) (fun c11 => ?_) (fun c11 => ?_)
        · have h := h.1 c11
          exact uX4_readRef_107 C hw hS st0 (lv_sub hl [1, 0] rfl)  h
        · have h := h.2 c11
          exact uX4_readRef_101 C hw hS  (lv_sub hl [1] rfl)  h
set_option maxHeartbeats 4000000 in
set_option maxRecDepth 10000 in
theorem uX4_readRef_0 {p : Program} {l : Launch} {e : Env} {s : State} {m : MethodId} {args : Array Value} {below : List Frame} {meth : Method} {c : Code} {G : GG} {SB : St} (C : Cx p s m args meth c G RX4 cX4_readRef 2 (some .boolean)) {S : St} {H : Heap} {locs : List Loc} {ls : Array Slot}  {k : Int → St → Prop} (hw : Wd G ((injC SB) S) H) (hS : va_S (AG G) s.heap H locs)  (hl : lv_has ls 2 [(0, .ref (G.2.2 1032))])  (h : wX4_readRef_0 S k) : W p l e (rmF 2 46) s m args below meth c H locs 0 0 (MQ below (QcI G (injC SB) k) args s 0 0 (AG G)) (F0 m 0 ls []) := by
  refine lv_aload_n C.1.1 C.1.2.1 dX4_readRef_0 rfl (lv_at hl 0 rfl) ?_
  refine y_getI C fl_X4_60 hw (ock_4 SB) rfl dX4_readRef_1 (fun v1 t1 => ?_)
  refine y_iconst C dX4_readRef_4 ⟨by decide, by decide⟩ (fun v2 t2 => ?_)
  refine y_icmp_eq C t1 t2 dX4_readRef_5 (tgt := 13) (by decide) (fun c3 => ?_) (fun c3 => ?_)
  · have h := h.1 c3
    refine lv_aload_n C.1.1 C.1.2.1 dX4_readRef_13 rfl (lv_at hl 0 rfl) ?_
    refine lv_aload_n C.1.1 C.1.2.1 dX4_readRef_14 rfl (lv_at hl 0 rfl) ?_
    refine lv_aload_n C.1.1 C.1.2.1 dX4_readRef_15 rfl (lv_at hl 0 rfl) ?_
    refine y_getJ C fl_X4_94 hw (ock_4 SB) rfl dX4_readRef_16 (fun v4 t4 => ?_)
    refine y_cVIp C (As := [.long v4]) (rest := [.ref (G.2.2 1032)]) ml_X4_206 (kX4_otherTypeSeen l G SB S t4 h) (ock_4 SB) (T := TX4) (N := 15) rfl (by decide) ⟨(Nat.le_of_ble_eq_true rfl), (Nat.le_of_ble_eq_true rfl)⟩ hl.1 rfl rfl (Nat.le_of_ble_eq_true rfl) hw hS dX4_readRef_19 (fun v5 x_5 H locs t5 h hw hS => ?_)
    obtain ⟨S_6, e6⟩ : ∃ z : St, z = up S 1032 13 x_5 := ⟨_, rfl⟩
    have h := h S_6 e6
    refine y_putI C fl_X4_216 fp_4_13 hw hS (ock_4 SB) rfl t5 dX4_readRef_22 (fun H locs hw hS => ?_)
    have hw : Wd G ((injC SB) S_6) H := by rw [e6]; exact hw
    refine lv_aload_n C.1.1 C.1.2.1 dX4_readRef_25 rfl (lv_at hl 0 rfl) ?_
    refine y_getI C fl_X4_216 hw (ock_4 SB) rfl dX4_readRef_26 (fun v7 t7 => ?_)
    refine y_iconst C dX4_readRef_29 ⟨by decide, by decide⟩ (fun v8 t8 => ?_)
    refine y_icmp_ne C t7 t8 dX4_readRef_30 (tgt := 39) (by decide) (fun c9 => ?_) (fun c9 => ?_)
    · have h := h.1 c9
      refine lv_aload_n C.1.1 C.1.2.1 dX4_readRef_39 rfl (lv_at hl 0 rfl) ?_
      obtain ⟨x_10, e10⟩ : ∃ z : Int, z = S_6 1032 3 := ⟨_, rfl⟩
      obtain ⟨o10, h⟩ := h x_10 e10
      refine y_getO C fl_X4_19 hw (ock_4 SB) rfl e10 o10 dX4_readRef_40 ?_
      refine y_getA C fl_X4_32 hw (oc_of SB o10) rfl (o := 1) rfl dX4_readRef_43 ?_
      refine lv_aload_n C.1.1 C.1.2.1 dX4_readRef_46 rfl (lv_at hl 0 rfl) ?_
      refine y_getI C fl_X4_216 hw (ock_4 SB) rfl dX4_readRef_47 (fun v12 t12 => ?_)
      obtain ⟨b13, h⟩ := h
      obtain ⟨x_13, e13⟩ : ∃ z : Int, z = x_10 + 6 + 6 * (S_6 1032 13) := ⟨_, rfl⟩
      have h := h x_13 e13
      have o13 : isO 6 x_13 := isO_ty o10 b13 e13
      refine y_tyO C hw o10 t12 b13 e13 dX4_readRef_50 ?_
      refine y_cVIp C (As := []) (rest := []) ml_X4_203 (kX6_isFace l G SB S_6 o13 h) (oc_of SB o13) (T := TX6) (N := 20) rfl (by decide) ⟨(Nat.le_of_ble_eq_true rfl), (Nat.le_of_ble_eq_true rfl)⟩ hl.1 rfl rfl (Nat.le_of_ble_eq_true rfl) hw hS dX4_readRef_51 (fun v14 x_14 H locs t14 h hw hS => ?_)
      refine y_if_ne C t14 dX4_readRef_54 (tgt := 61) (by decide) (fun c15 => ?_) (fun c15 => ?_)
      · have h := h.1 c15
        refine y_iconst C dX4_readRef_61 ⟨by decide, by decide⟩ (fun v16 t16 => ?_)
        exact uX4_readRef_62 C hw hS t16 (lv_sub hl [0] rfl)  h
      · have h := h.2 c15
        refine y_iconst C dX4_readRef_57 ⟨by decide, by decide⟩ (fun v17 t17 => ?_)
        refine lv_goto (tgt := 62) C.1.1 C.1.2.1 dX4_readRef_58 (by decide) ?_
        exact uX4_readRef_62 C hw hS t17 (lv_sub hl [0] rfl)  h
    · have h := h.2 c9
      refine lv_aload_n C.1.1 C.1.2.1 dX4_readRef_33 rfl (lv_at hl 0 rfl) ?_
      refine y_iconst C dX4_readRef_34 ⟨by decide, by decide⟩ (fun v18 t18 => ?_)
      refine y_cVI C (As := [.int v18]) (rest := []) ml_X4_126 (kX4_fail l G SB S_6 t18 h) (ock_4 SB) (T := TX4) (N := 15) rfl (by decide) ⟨(Nat.le_of_ble_eq_true rfl), (Nat.le_of_ble_eq_true rfl)⟩ hl.1 rfl rfl (Nat.le_of_ble_eq_true rfl) hw hS dX4_readRef_35 (fun v19 x_19 S_19 H locs t19 h hw hS => ?_)
      obtain ⟨z, h⟩ := h
      exact y_zret C hw hS t19 z h dX4_readRef_38
  · have h := h.2 c3
    refine lv_aload_n C.1.1 C.1.2.1 dX4_readRef_8 rfl (lv_at hl 0 rfl) ?_
    refine y_cVI C (As := []) (rest := []) ml_X4_119 (kX4_misfit l G SB S  h) (ock_4 SB) (T := TX4) (N := 15) rfl (by decide) ⟨(Nat.le_of_ble_eq_true rfl), (Nat.le_of_ble_eq_true rfl)⟩ hl.1 rfl rfl (Nat.le_of_ble_eq_true rfl) hw hS dX4_readRef_9 (fun v20 x_20 S_20 H locs t20 h hw hS => ?_)
    obtain ⟨z, h⟩ := h
    exact y_zret C hw hS t20 z h dX4_readRef_12
theorem kX4_readRef (l : Launch) (G : GG) (SB S : St)  {k : Int → St → Prop} (h : wX4_readRef S k) : CnI l yX4_readRef cX4_readRef 2 (some .boolean) 2 46 G (injC SB) [.ref (G.2.2 1032)] S k :=
  cn_body (by decide +kernel) (Nat.le_of_ble_eq_true rfl) (fun p e s m args below meth c ls C hw hl => uX4_readRef_0 C hw va_S.rf  (lv_sub hl [0] rfl) h)
set_option maxHeartbeats 4000000 in
set_option maxRecDepth 10000 in
theorem uX4_kindNamed_0 {p : Program} {l : Launch} {e : Env} {s : State} {m : MethodId} {args : Array Value} {below : List Frame} {meth : Method} {c : Code} {G : GG} {SB : St} (C : Cx p s m args meth c G RX4 cX4_kindNamed 5 (some .int)) {S : St} {H : Heap} {locs : List Loc} {ls : Array Slot}  {k : Int → Prop} (hw : Wd G ((injC SB) S) H) (hS : va_S (AG G) s.heap H locs) {xv1 : Int64} {x1 : Int} (xt1 : xv1.toInt = x1) (hl : lv_has ls 5 [(0, .ref (G.2.2 1032)), (1, .long xv1)])  (h : wX4_kindNamed_0 S x1 k) : W p l e (rmF 1 24) s m args below meth c H locs 0 0 (MQ below (QcI G (injC SB) (fun r u => k r ∧ u = S)) args s 0 0 (AG G)) (F0 m 0 ls []) := by
  refine lv_aload_n C.1.1 C.1.2.1 dX4_kindNamed_0 rfl (lv_at hl 0 rfl) ?_
  obtain ⟨x_1, e1⟩ : ∃ z : Int, z = S 1032 12 := ⟨_, rfl⟩
  obtain ⟨o1, h⟩ := h x_1 e1
  refine y_getO C fl_X4_38 hw (ock_4 SB) rfl e1 o1 dX4_kindNamed_1 ?_
  refine lv_lload_n C.1.1 C.1.2.1 dX4_kindNamed_4 rfl (lv_at hl 1 rfl) ?_
  refine y_cVIp C (As := [.long xv1]) (rest := []) ml_X4_180 (kX6_varNamed l G SB S o1 xt1 h) (oc_of SB o1) (T := TX6) (N := 20) rfl (by decide) ⟨(Nat.le_of_ble_eq_true rfl), (Nat.le_of_ble_eq_true rfl)⟩ hl.1 rfl rfl (Nat.le_of_ble_eq_true rfl) hw hS dX4_kindNamed_5 (fun v2 x_2 H locs t2 h hw hS => ?_)
  refine lv_istore_n (lv' := [(3, .int v2), (0, .ref (G.2.2 1032)), (1, .long xv1)]) C.1.1 C.1.2.1 dX4_kindNamed_8 rfl hl (by decide) rfl (fun ls hl => ?_)
  refine lv_iload_n C.1.1 C.1.2.1 dX4_kindNamed_9 rfl (lv_at hl 0 rfl) ?_
  refine y_iconst C dX4_kindNamed_10 ⟨by decide, by decide⟩ (fun v3 t3 => ?_)
  refine y_icmp_eq C t2 t3 dX4_kindNamed_11 (tgt := 19) (by decide) (fun c4 => ?_) (fun c4 => ?_)
  · have h := h.1 c4
    refine lv_aload_n C.1.1 C.1.2.1 dX4_kindNamed_19 rfl (lv_at hl 1 rfl) ?_
    refine lv_lload_n C.1.1 C.1.2.1 dX4_kindNamed_20 rfl (lv_at hl 2 rfl) ?_
    refine y_cVIp C (As := [.long xv1]) (rest := []) ml_X4_199 (kX4_typeSeen l G SB S xt1 h) (ock_4 SB) (T := TX4) (N := 15) rfl (by decide) ⟨(Nat.le_of_ble_eq_true rfl), (Nat.le_of_ble_eq_true rfl)⟩ hl.1 rfl rfl (Nat.le_of_ble_eq_true rfl) hw hS dX4_kindNamed_21 (fun v5 x_5 H locs t5 h hw hS => ?_)
    refine lv_istore (lv' := [(4, .int v5), (3, .int v2), (0, .ref (G.2.2 1032)), (1, .long xv1)]) C.1.1 C.1.2.1 dX4_kindNamed_24 hl (by decide) rfl (fun ls hl => ?_)
    refine lv_iload C.1.1 C.1.2.1 dX4_kindNamed_26 (lv_at hl 0 rfl) ?_
    refine y_iconst C dX4_kindNamed_28 ⟨by decide, by decide⟩ (fun v6 t6 => ?_)
    refine y_icmp_ne C t5 t6 dX4_kindNamed_29 (tgt := 37) (by decide) (fun c7 => ?_) (fun c7 => ?_)
    · have h := h.1 c7
      refine lv_iload C.1.1 C.1.2.1 dX4_kindNamed_37 (lv_at hl 0 rfl) ?_
      exact y_iret C hw hS t5 ⟨h, rfl⟩ dX4_kindNamed_39
    · have h := h.2 c7
      refine y_bipush C dX4_kindNamed_32 ⟨by decide, by decide⟩ (fun v8 t8 => ?_)
      refine lv_goto (tgt := 39) C.1.1 C.1.2.1 dX4_kindNamed_34 (by decide) ?_
      exact y_iret C hw hS t8 ⟨h, rfl⟩ dX4_kindNamed_39
  · have h := h.2 c4
    refine y_bipush C dX4_kindNamed_14 ⟨by decide, by decide⟩ (fun v9 t9 => ?_)
    refine lv_iload_n C.1.1 C.1.2.1 dX4_kindNamed_16 rfl (lv_at hl 0 rfl) ?_
    refine y_iadd C t9 t2 dX4_kindNamed_17 (fun v10 t10 => ?_)
    exact y_iret C hw hS t10 ⟨h, rfl⟩ dX4_kindNamed_18
theorem kX4_kindNamed (l : Launch) (G : GG) (SB S : St) {xv1 : Int64} {x1 : Int} (xt1 : xv1.toInt = x1) {k : Int → Prop} (h : wX4_kindNamed S x1 k) : CnI l yX4_kindNamed cX4_kindNamed 5 (some .int) 1 24 G (injC SB) [.ref (G.2.2 1032), .long xv1] S (fun r u => k r ∧ u = S) :=
  cn_body (by decide +kernel) (Nat.le_of_ble_eq_true rfl) (fun p e s m args below meth c ls C hw hl => uX4_kindNamed_0 C hw va_S.rf xt1 (lv_sub hl [0, 1] rfl) h)
set_option maxHeartbeats 4000000 in
set_option maxRecDepth 10000 in
theorem uX4_readArguments_56 {p : Program} {l : Launch} {e : Env} {s : State} {m : MethodId} {args : Array Value} {below : List Frame} {meth : Method} {c : Code} {G : GG} {SB : St} (C : Cx p s m args meth c G RX4 cX4_readArguments 4 (some .boolean)) {S : St} {H : Heap} {locs : List Loc} {ls : Array Slot} {P13 : Int → Int → St → Prop} {k : Int → St → Prop} (hw : Wd G ((injC SB) S) H) (hS : va_S (AG G) s.heap H locs) {xv2 : Int32} {x2 : Int} (xt2 : xv2.toInt = x2) {sv0 : Int32} {s0 : Int} (st0 : sv0.toInt = s0) (hl : lv_has ls 4 [(0, .ref (G.2.2 1032)), (2, .int xv2)]) (hP13 : ∀ {H : Heap} {locs : List Loc} {ls : Array Slot} {Sy : St} {yv1 : Int32} {y1 : Int} {yv2 : Int32} {y2 : Int}, yv1.toInt = y1 → yv2.toInt = y2 → Wd G ((injC SB) Sy) H → va_S (AG G) s.heap H locs → lv_has ls 4 [(0, .ref (G.2.2 1032)), (1, .int yv1), (2, .int yv2)] → P13 y1 y2 Sy → W p l e (rmF 3 62) s m args below meth c H locs 0 0 (MQ below (QcI G (injC SB) k) args s 0 0 (AG G)) (F0 m 13 ls [])) (h : wX4_readArguments_56 S x2 s0 P13 k) : W p l e (rmF 3 62) s m args below meth c H locs 0 0 (MQ below (QcI G (injC SB) k) args s 0 0 (AG G)) (F0 m 56 ls [.int sv0]) := by
  refine lv_istore_n (lv' := [(3, .int sv0), (0, .ref (G.2.2 1032)), (2, .int xv2)]) C.1.1 C.1.2.1 dX4_readArguments_56 rfl hl (by decide) rfl (fun ls hl => ?_)
  refine lv_iload_n C.1.1 C.1.2.1 dX4_readArguments_57 rfl (lv_at hl 0 rfl) ?_
  refine y_bipush C dX4_readArguments_58 ⟨by decide, by decide⟩ (fun v1 t1 => ?_)
  refine y_icmp_ne C st0 t1 dX4_readArguments_60 (tgt := 84) (by decide) (fun c2 => ?_) (fun c2 => ?_)
  · have h := h.1 c2
    refine lv_aload_n C.1.1 C.1.2.1 dX4_readArguments_84 rfl (lv_at hl 1 rfl) ?_
    obtain ⟨x_3, e3⟩ : ∃ z : Int, z = S 1032 12 := ⟨_, rfl⟩
    obtain ⟨o3, h⟩ := h x_3 e3
    refine y_getO C fl_X4_38 hw (ock_4 SB) rfl e3 o3 dX4_readArguments_85 ?_
    refine lv_aload_n C.1.1 C.1.2.1 dX4_readArguments_88 rfl (lv_at hl 1 rfl) ?_
    refine y_getI C fl_X4_216 hw (ock_4 SB) rfl dX4_readArguments_89 (fun v4 t4 => ?_)
    refine lv_iload_n C.1.1 C.1.2.1 dX4_readArguments_92 rfl (lv_at hl 2 rfl) ?_
    refine lv_iload_n C.1.1 C.1.2.1 dX4_readArguments_93 rfl (lv_at hl 0 rfl) ?_
    refine y_cVV C (As := [.int v4, .int xv2, .int sv0]) (rest := []) ml_X4_192 (kX6_setArgument l G SB S o3 t4 xt2 st0 h) (oc_of SB o3) (T := TX6) (N := 20) rfl (by decide) ⟨(Nat.le_of_ble_eq_true rfl), (Nat.le_of_ble_eq_true rfl)⟩ hl.1 rfl rfl (Nat.le_of_ble_eq_true rfl) hw hS dX4_readArguments_94 (fun S_5 H locs h hw hS => ?_)
    refine lv_iload_n C.1.1 C.1.2.1 dX4_readArguments_97 rfl (lv_at hl 2 rfl) ?_
    refine y_iconst C dX4_readArguments_98 ⟨by decide, by decide⟩ (fun v6 t6 => ?_)
    refine y_iadd C xt2 t6 dX4_readArguments_99 (fun v7 t7 => ?_)
    obtain ⟨x_8, e8⟩ : ∃ z : Int, z = w32 (x2 + 1) := ⟨_, rfl⟩
    have h := h x_8 e8
    have t8 := t7.trans e8.symm
    refine lv_istore_n (lv' := [(1, .int v7), (3, .int sv0), (0, .ref (G.2.2 1032)), (2, .int xv2)]) C.1.1 C.1.2.1 dX4_readArguments_100 rfl hl (by decide) rfl (fun ls hl => ?_)
    refine lv_aload_n C.1.1 C.1.2.1 dX4_readArguments_101 rfl (lv_at hl 2 rfl) ?_
    refine y_cVV C (As := []) (rest := []) ml_X4_130 (kX4_advance l G SB S_5  h) (ock_4 SB) (T := TX4) (N := 15) rfl (by decide) ⟨(Nat.le_of_ble_eq_true rfl), (Nat.le_of_ble_eq_true rfl)⟩ hl.1 rfl rfl (Nat.le_of_ble_eq_true rfl) hw hS dX4_readArguments_102 (fun S_9 H locs h hw hS => ?_)
    obtain ⟨x_10, e10⟩ : ∃ z : Int, z = w32 (x2 + 1) := ⟨_, rfl⟩
    have h := h x_10 e10
    obtain ⟨v10, t10, g10⟩ : ∃ z : Int32, z.toInt = x_10 ∧ xv2 + Int32.ofInt 1 = z := ⟨_, (ti_inc xt2 ⟨by decide, by decide⟩).trans e10.symm, rfl⟩
    refine lv_iinc (v := v10) (lv' := [(2, .int v10), (1, .int v7), (3, .int sv0), (0, .ref (G.2.2 1032))]) C.1.1 C.1.2.1 dX4_readArguments_105 hl (k := 3) rfl g10 (by decide) rfl (fun ls hl => ?_)
    refine lv_goto (tgt := 13) C.1.1 C.1.2.1 dX4_readArguments_108 (by decide) ?_
    exact hP13 t8 t10 hw hS (lv_sub hl [3, 1, 0] rfl) h
  · have h := h.2 c2
    refine lv_aload_n C.1.1 C.1.2.1 dX4_readArguments_63 rfl (lv_at hl 1 rfl) ?_
    refine y_getI C fl_X4_60 hw (ock_4 SB) rfl dX4_readArguments_64 (fun v11 t11 => ?_)
    refine y_iconst C dX4_readArguments_67 ⟨by decide, by decide⟩ (fun v12 t12 => ?_)
    refine y_icmp_ne C t11 t12 dX4_readArguments_68 (tgt := 79) (by decide) (fun c13 => ?_) (fun c13 => ?_)
    · have h := h.1 c13
      refine lv_aload_n C.1.1 C.1.2.1 dX4_readArguments_79 rfl (lv_at hl 1 rfl) ?_
      refine y_cVI C (As := []) (rest := []) ml_X4_119 (kX4_misfit l G SB S  h) (ock_4 SB) (T := TX4) (N := 15) rfl (by decide) ⟨(Nat.le_of_ble_eq_true rfl), (Nat.le_of_ble_eq_true rfl)⟩ hl.1 rfl rfl (Nat.le_of_ble_eq_true rfl) hw hS dX4_readArguments_80 (fun v14 x_14 S_14 H locs t14 h hw hS => ?_)
      obtain ⟨z, h⟩ := h
      exact y_zret C hw hS t14 z h dX4_readArguments_83
    · have h := h.2 c13
      refine lv_aload_n C.1.1 C.1.2.1 dX4_readArguments_71 rfl (lv_at hl 1 rfl) ?_
      refine y_iconst C dX4_readArguments_72 ⟨by decide, by decide⟩ (fun v15 t15 => ?_)
      refine y_cVI C (As := [.int v15]) (rest := []) ml_X4_126 (kX4_fail l G SB S t15 h) (ock_4 SB) (T := TX4) (N := 15) rfl (by decide) ⟨(Nat.le_of_ble_eq_true rfl), (Nat.le_of_ble_eq_true rfl)⟩ hl.1 rfl rfl (Nat.le_of_ble_eq_true rfl) hw hS dX4_readArguments_73 (fun v16 x_16 S_16 H locs t16 h hw hS => ?_)
      refine lv_goto (tgt := 83) C.1.1 C.1.2.1 dX4_readArguments_76 (by decide) ?_
      obtain ⟨z, h⟩ := h
      exact y_zret C hw hS t16 z h dX4_readArguments_83
set_option maxHeartbeats 4000000 in
set_option maxRecDepth 10000 in
theorem uX4_readArguments_31 {p : Program} {l : Launch} {e : Env} {s : State} {m : MethodId} {args : Array Value} {below : List Frame} {meth : Method} {c : Code} {G : GG} {SB : St} (C : Cx p s m args meth c G RX4 cX4_readArguments 4 (some .boolean)) {S : St} {H : Heap} {locs : List Loc} {ls : Array Slot} {P13 : Int → Int → St → Prop} {k : Int → St → Prop} (hw : Wd G ((injC SB) S) H) (hS : va_S (AG G) s.heap H locs) {xv2 : Int32} {x2 : Int} (xt2 : xv2.toInt = x2) (hl : lv_has ls 4 [(0, .ref (G.2.2 1032)), (2, .int xv2)]) (hP13 : ∀ {H : Heap} {locs : List Loc} {ls : Array Slot} {Sy : St} {yv1 : Int32} {y1 : Int} {yv2 : Int32} {y2 : Int}, yv1.toInt = y1 → yv2.toInt = y2 → Wd G ((injC SB) Sy) H → va_S (AG G) s.heap H locs → lv_has ls 4 [(0, .ref (G.2.2 1032)), (1, .int yv1), (2, .int yv2)] → P13 y1 y2 Sy → W p l e (rmF 3 62) s m args below meth c H locs 0 0 (MQ below (QcI G (injC SB) k) args s 0 0 (AG G)) (F0 m 13 ls [])) (h : wX4_readArguments_31 S x2 P13 k) : W p l e (rmF 3 62) s m args below meth c H locs 0 0 (MQ below (QcI G (injC SB) k) args s 0 0 (AG G)) (F0 m 31 ls []) := by
  refine lv_aload_n C.1.1 C.1.2.1 dX4_readArguments_31 rfl (lv_at hl 0 rfl) ?_
  refine y_cVV C (As := []) (rest := []) ml_X4_130 (kX4_advance l G SB S  h) (ock_4 SB) (T := TX4) (N := 15) rfl (by decide) ⟨(Nat.le_of_ble_eq_true rfl), (Nat.le_of_ble_eq_true rfl)⟩ hl.1 rfl rfl (Nat.le_of_ble_eq_true rfl) hw hS dX4_readArguments_32 (fun S_1 H locs h hw hS => ?_)
  refine lv_aload_n C.1.1 C.1.2.1 dX4_readArguments_35 rfl (lv_at hl 0 rfl) ?_
  refine y_getI C fl_X4_60 hw (ock_4 SB) rfl dX4_readArguments_36 (fun v2 t2 => ?_)
  refine y_iconst C dX4_readArguments_39 ⟨by decide, by decide⟩ (fun v3 t3 => ?_)
  refine y_icmp_ne C t2 t3 dX4_readArguments_40 (tgt := 54) (by decide) (fun c4 => ?_) (fun c4 => ?_)
  · have h := h.1 c4
    refine y_bipush C dX4_readArguments_54 ⟨by decide, by decide⟩ (fun v5 t5 => ?_)
    exact uX4_readArguments_56 C hw hS xt2 t5 (lv_sub hl [0, 1] rfl) hP13 h
  · have h := h.2 c4
    refine lv_aload_n C.1.1 C.1.2.1 dX4_readArguments_43 rfl (lv_at hl 0 rfl) ?_
    refine lv_aload_n C.1.1 C.1.2.1 dX4_readArguments_44 rfl (lv_at hl 0 rfl) ?_
    refine y_getJ C fl_X4_94 hw (ock_4 SB) rfl dX4_readArguments_45 (fun v6 t6 => ?_)
    refine y_cVIp C (As := [.long v6]) (rest := []) ml_X4_234 (kX4_kindNamed l G SB S_1 t6 h) (ock_4 SB) (T := TX4) (N := 15) rfl (by decide) ⟨(Nat.le_of_ble_eq_true rfl), (Nat.le_of_ble_eq_true rfl)⟩ hl.1 rfl rfl (Nat.le_of_ble_eq_true rfl) hw hS dX4_readArguments_48 (fun v7 x_7 H locs t7 h hw hS => ?_)
    refine lv_goto (tgt := 56) C.1.1 C.1.2.1 dX4_readArguments_51 (by decide) ?_
    exact uX4_readArguments_56 C hw hS xt2 t7 (lv_sub hl [0, 1] rfl) hP13 h
set_option maxHeartbeats 4000000 in
set_option maxRecDepth 10000 in
theorem uX4_readArguments_185 {p : Program} {l : Launch} {e : Env} {s : State} {m : MethodId} {args : Array Value} {below : List Frame} {meth : Method} {c : Code} {G : GG} {SB : St} (C : Cx p s m args meth c G RX4 cX4_readArguments 4 (some .boolean)) {S : St} {H : Heap} {locs : List Loc} {ls : Array Slot}  {k : Int → St → Prop} (hw : Wd G ((injC SB) S) H) (hS : va_S (AG G) s.heap H locs) {sv1 : Int32} {s1 : Int} (st1 : sv1.toInt = s1) (hl : lv_has ls 4 [(0, .ref (G.2.2 1032))])  (h : wX4_readArguments_185 S s1 k) : W p l e (rmF 3 62) s m args below meth c H locs 0 0 (MQ below (QcI G (injC SB) k) args s 0 0 (AG G)) (F0 m 185 ls [.int sv1, .ref (G.2.2 1032)]) := by
  obtain ⟨S_1, e1⟩ : ∃ z : St, z = up S 1032 11 s1 := ⟨_, rfl⟩
  have h := h S_1 e1
  refine y_putI C fl_X4_56 fp_4_11 hw hS (ock_4 SB) rfl st1 dX4_readArguments_185 (fun H locs hw hS => ?_)
  have hw : Wd G ((injC SB) S_1) H := by rw [e1]; exact hw
  refine lv_aload_n C.1.1 C.1.2.1 dX4_readArguments_188 rfl (lv_at hl 0 rfl) ?_
  refine y_cVV C (As := []) (rest := []) ml_X4_130 (kX4_advance l G SB S_1  h) (ock_4 SB) (T := TX4) (N := 15) rfl (by decide) ⟨(Nat.le_of_ble_eq_true rfl), (Nat.le_of_ble_eq_true rfl)⟩ hl.1 rfl rfl (Nat.le_of_ble_eq_true rfl) hw hS dX4_readArguments_189 (fun S_2 H locs h hw hS => ?_)
  refine y_iconst C dX4_readArguments_192 ⟨by decide, by decide⟩ (fun v3 t3 => ?_)
  exact y_zret C hw hS t3 (Or.inr rfl) h dX4_readArguments_193
set_option maxHeartbeats 4000000 in
set_option maxRecDepth 10000 in
theorem uX4_readArguments_145 {p : Program} {l : Launch} {e : Env} {s : State} {m : MethodId} {args : Array Value} {below : List Frame} {meth : Method} {c : Code} {G : GG} {SB : St} (C : Cx p s m args meth c G RX4 cX4_readArguments 4 (some .boolean)) {S : St} {H : Heap} {locs : List Loc} {ls : Array Slot}  {k : Int → St → Prop} (hw : Wd G ((injC SB) S) H) (hS : va_S (AG G) s.heap H locs) {xv1 : Int32} {x1 : Int} (xt1 : xv1.toInt = x1) (hl : lv_has ls 4 [(0, .ref (G.2.2 1032)), (1, .int xv1)])  (h : wX4_readArguments_145 S x1 k) : W p l e (rmF 3 62) s m args below meth c H locs 0 0 (MQ below (QcI G (injC SB) k) args s 0 0 (AG G)) (F0 m 145 ls []) := by
  refine lv_iload_n C.1.1 C.1.2.1 dX4_readArguments_145 rfl (lv_at hl 1 rfl) ?_
  refine lv_aload_n C.1.1 C.1.2.1 dX4_readArguments_146 rfl (lv_at hl 0 rfl) ?_
  obtain ⟨x_1, e1⟩ : ∃ z : Int, z = S 1032 3 := ⟨_, rfl⟩
  obtain ⟨o1, h⟩ := h x_1 e1
  refine y_getO C fl_X4_19 hw (ock_4 SB) rfl e1 o1 dX4_readArguments_147 ?_
  refine y_getA C fl_X4_32 hw (oc_of SB o1) rfl (o := 1) rfl dX4_readArguments_150 ?_
  refine lv_aload_n C.1.1 C.1.2.1 dX4_readArguments_153 rfl (lv_at hl 0 rfl) ?_
  refine y_getI C fl_X4_216 hw (ock_4 SB) rfl dX4_readArguments_154 (fun v3 t3 => ?_)
  obtain ⟨b4, h⟩ := h
  obtain ⟨x_4, e4⟩ : ∃ z : Int, z = x_1 + 6 + 6 * (S 1032 13) := ⟨_, rfl⟩
  have h := h x_4 e4
  have o4 : isO 6 x_4 := isO_ty o1 b4 e4
  refine y_tyO C hw o1 t3 b4 e4 dX4_readArguments_157 ?_
  refine y_getI C fl_X4_196 hw (oc_of SB o4) rfl dX4_readArguments_158 (fun v5 t5 => ?_)
  refine y_icmp_eq C xt1 t5 dX4_readArguments_161 (tgt := 170) (by decide) (fun c6 => ?_) (fun c6 => ?_)
  · have h := h.1 c6
    refine lv_aload_n C.1.1 C.1.2.1 dX4_readArguments_170 rfl (lv_at hl 0 rfl) ?_
    refine lv_aload_n C.1.1 C.1.2.1 dX4_readArguments_171 rfl (lv_at hl 0 rfl) ?_
    refine y_getI C fl_X4_60 hw (ock_4 SB) rfl dX4_readArguments_172 (fun v7 t7 => ?_)
    refine y_bipush C dX4_readArguments_175 ⟨by decide, by decide⟩ (fun v8 t8 => ?_)
    refine y_icmp_ne C t7 t8 dX4_readArguments_177 (tgt := 184) (by decide) (fun c9 => ?_) (fun c9 => ?_)
    · have h := h.1 c9
      refine y_iconst C dX4_readArguments_184 ⟨by decide, by decide⟩ (fun v10 t10 => ?_)
      exact uX4_readArguments_185 C hw hS t10 (lv_sub hl [0] rfl)  h
    · have h := h.2 c9
      refine y_iconst C dX4_readArguments_180 ⟨by decide, by decide⟩ (fun v11 t11 => ?_)
      refine lv_goto (tgt := 185) C.1.1 C.1.2.1 dX4_readArguments_181 (by decide) ?_
      exact uX4_readArguments_185 C hw hS t11 (lv_sub hl [0] rfl)  h
  · have h := h.2 c6
    refine lv_aload_n C.1.1 C.1.2.1 dX4_readArguments_164 rfl (lv_at hl 0 rfl) ?_
    refine y_iconst C dX4_readArguments_165 ⟨by decide, by decide⟩ (fun v12 t12 => ?_)
    refine y_cVI C (As := [.int v12]) (rest := []) ml_X4_126 (kX4_fail l G SB S t12 h) (ock_4 SB) (T := TX4) (N := 15) rfl (by decide) ⟨(Nat.le_of_ble_eq_true rfl), (Nat.le_of_ble_eq_true rfl)⟩ hl.1 rfl rfl (Nat.le_of_ble_eq_true rfl) hw hS dX4_readArguments_166 (fun v13 x_13 S_13 H locs t13 h hw hS => ?_)
    obtain ⟨z, h⟩ := h
    exact y_zret C hw hS t13 z h dX4_readArguments_169
set_option maxHeartbeats 4000000 in
set_option maxRecDepth 10000 in
theorem uX4_readArguments_122 {p : Program} {l : Launch} {e : Env} {s : State} {m : MethodId} {args : Array Value} {below : List Frame} {meth : Method} {c : Code} {G : GG} {SB : St} (C : Cx p s m args meth c G RX4 cX4_readArguments 4 (some .boolean)) {S : St} {H : Heap} {locs : List Loc} {ls : Array Slot}  {k : Int → St → Prop} (hw : Wd G ((injC SB) S) H) (hS : va_S (AG G) s.heap H locs) {xv1 : Int32} {x1 : Int} (xt1 : xv1.toInt = x1) (hl : lv_has ls 4 [(0, .ref (G.2.2 1032)), (1, .int xv1)])  (h : wX4_readArguments_122 S x1 k) : W p l e (rmF 3 62) s m args below meth c H locs 0 0 (MQ below (QcI G (injC SB) k) args s 0 0 (AG G)) (F0 m 122 ls []) := by
  refine lv_aload_n C.1.1 C.1.2.1 dX4_readArguments_122 rfl (lv_at hl 0 rfl) ?_
  refine y_getI C fl_X4_60 hw (ock_4 SB) rfl dX4_readArguments_123 (fun v1 t1 => ?_)
  refine y_bipush C dX4_readArguments_126 ⟨by decide, by decide⟩ (fun v2 t2 => ?_)
  refine y_icmp_eq C t1 t2 dX4_readArguments_128 (tgt := 145) (by decide) (fun c3 => ?_) (fun c3 => ?_)
  · have h := h.1 c3
    exact uX4_readArguments_145 C hw hS xt1 (lv_sub hl [0, 1] rfl)  h
  · have h := h.2 c3
    refine lv_aload_n C.1.1 C.1.2.1 dX4_readArguments_131 rfl (lv_at hl 0 rfl) ?_
    refine y_getI C fl_X4_60 hw (ock_4 SB) rfl dX4_readArguments_132 (fun v4 t4 => ?_)
    refine y_bipush C dX4_readArguments_135 ⟨by decide, by decide⟩ (fun v5 t5 => ?_)
    refine y_icmp_eq C t4 t5 dX4_readArguments_137 (tgt := 145) (by decide) (fun c6 => ?_) (fun c6 => ?_)
    · have h := h.1 c6
      exact uX4_readArguments_145 C hw hS xt1 (lv_sub hl [0, 1] rfl)  h
    · have h := h.2 c6
      refine lv_aload_n C.1.1 C.1.2.1 dX4_readArguments_140 rfl (lv_at hl 0 rfl) ?_
      refine y_cVI C (As := []) (rest := []) ml_X4_119 (kX4_misfit l G SB S  h) (ock_4 SB) (T := TX4) (N := 15) rfl (by decide) ⟨(Nat.le_of_ble_eq_true rfl), (Nat.le_of_ble_eq_true rfl)⟩ hl.1 rfl rfl (Nat.le_of_ble_eq_true rfl) hw hS dX4_readArguments_141 (fun v7 x_7 S_7 H locs t7 h hw hS => ?_)
      obtain ⟨z, h⟩ := h
      exact y_zret C hw hS t7 z h dX4_readArguments_144
set_option maxHeartbeats 4000000 in
set_option maxRecDepth 10000 in
theorem uX4_readArguments_111 {p : Program} {l : Launch} {e : Env} {s : State} {m : MethodId} {args : Array Value} {below : List Frame} {meth : Method} {c : Code} {G : GG} {SB : St} (C : Cx p s m args meth c G RX4 cX4_readArguments 4 (some .boolean)) {S : St} {H : Heap} {locs : List Loc} {ls : Array Slot}  {k : Int → St → Prop} (hw : Wd G ((injC SB) S) H) (hS : va_S (AG G) s.heap H locs) {xv1 : Int32} {x1 : Int} (xt1 : xv1.toInt = x1) (hl : lv_has ls 4 [(0, .ref (G.2.2 1032)), (1, .int xv1)])  (h : wX4_readArguments_111 S x1 k) : W p l e (rmF 3 62) s m args below meth c H locs 0 0 (MQ below (QcI G (injC SB) k) args s 0 0 (AG G)) (F0 m 111 ls []) := by
  refine lv_aload_n C.1.1 C.1.2.1 dX4_readArguments_111 rfl (lv_at hl 0 rfl) ?_
  refine y_bipush C dX4_readArguments_112 ⟨by decide, by decide⟩ (fun v1 t1 => ?_)
  refine y_cVI C (As := [.int v1]) (rest := []) ml_X4_143 (kX4_take l G SB S t1 h) (ock_4 SB) (T := TX4) (N := 15) rfl (by decide) ⟨(Nat.le_of_ble_eq_true rfl), (Nat.le_of_ble_eq_true rfl)⟩ hl.1 rfl rfl (Nat.le_of_ble_eq_true rfl) hw hS dX4_readArguments_114 (fun v2 x_2 S_2 H locs t2 h hw hS => ?_)
  refine y_if_ne C t2 dX4_readArguments_117 (tgt := 122) (by decide) (fun c3 => ?_) (fun c3 => ?_)
  · have h := h.1 c3
    exact uX4_readArguments_122 C hw hS xt1 (lv_sub hl [0, 1] rfl)  h
  · have h := h.2 c3
    refine y_iconst C dX4_readArguments_120 ⟨by decide, by decide⟩ (fun v4 t4 => ?_)
    exact y_zret C hw hS t4 (Or.inl rfl) h dX4_readArguments_121
set_option maxHeartbeats 4000000 in
set_option maxRecDepth 10000 in
theorem uX4_readArguments_13_b {p : Program} {l : Launch} {e : Env} {s : State} {m : MethodId} {args : Array Value} {below : List Frame} {meth : Method} {c : Code} {G : GG} {SB : St} (C : Cx p s m args meth c G RX4 cX4_readArguments 4 (some .boolean)) {S : St} {H : Heap} {locs : List Loc} {ls : Array Slot}  {P13 : Int → Int → St → Prop} {k : Int → St → Prop} (hw : Wd G ((injC SB) S) H) (hS : va_S (AG G) s.heap H locs) {xv1 : Int32} {x1 : Int} (xt1 : xv1.toInt = x1) {xv2 : Int32} {x2 : Int} (xt2 : xv2.toInt = x2) (hl : lv_has ls 4 [(0, .ref (G.2.2 1032)), (1, .int xv1), (2, .int xv2)])  (hP13 : ∀ {H : Heap} {locs : List Loc} {ls : Array Slot} {Sy : St} {yv1 : Int32} {y1 : Int} {yv2 : Int32} {y2 : Int}, yv1.toInt = y1 → yv2.toInt = y2 → Wd G ((injC SB) Sy) H → va_S (AG G) s.heap H locs → lv_has ls 4 [(0, .ref (G.2.2 1032)), (1, .int yv1), (2, .int yv2)] → P13 y1 y2 Sy → W p l e (rmF 3 62) s m args below meth c H locs 0 0 (MQ below (QcI G (injC SB) k) args s 0 0 (AG G)) (F0 m 13 ls [])) (h : wX4_readArguments_13_b S x1 x2 P13 k) : W p l e (rmF 3 62) s m args below meth c H locs 0 0 (MQ below (QcI G (injC SB) k) args s 0 0 (AG G)) (F0 m 13 ls []) := by
  refine lv_iload_n C.1.1 C.1.2.1 dX4_readArguments_13 rfl (lv_at hl 2 rfl) ?_
  refine y_iconst C dX4_readArguments_14 ⟨by decide, by decide⟩ (fun v1 t1 => ?_)
  refine y_icmp_ge C xt2 t1 dX4_readArguments_15 (tgt := 111) (by decide) (fun c2 => ?_) (fun c2 => ?_)
  · have h := h.1 c2
    exact uX4_readArguments_111 C hw hS xt1 (lv_sub hl [0, 1] rfl)  h
  · have h := h.2 c2
    refine lv_iload_n C.1.1 C.1.2.1 dX4_readArguments_18 rfl (lv_at hl 2 rfl) ?_
    refine y_if_eq C xt2 dX4_readArguments_19 (tgt := 31) (by decide) (fun c3 => ?_) (fun c3 => ?_)
    · have h := h.1 c3
      exact uX4_readArguments_31 C hw hS xt2 (lv_sub hl [0, 2] rfl) hP13 h
    · have h := h.2 c3
      refine lv_aload_n C.1.1 C.1.2.1 dX4_readArguments_22 rfl (lv_at hl 0 rfl) ?_
      refine y_getI C fl_X4_60 hw (ock_4 SB) rfl dX4_readArguments_23 (fun v4 t4 => ?_)
      refine y_bipush C dX4_readArguments_26 ⟨by decide, by decide⟩ (fun v5 t5 => ?_)
      refine y_icmp_ne C t4 t5 dX4_readArguments_28 (tgt := 111) (by decide) (fun c6 => ?_) (fun c6 => ?_)
      · have h := h.1 c6
        exact uX4_readArguments_111 C hw hS xt1 (lv_sub hl [0, 1] rfl)  h
      · have h := h.2 c6
        exact uX4_readArguments_31 C hw hS xt2 (lv_sub hl [0, 2] rfl) hP13 h
set_option maxHeartbeats 4000000 in
set_option maxRecDepth 10000 in
theorem uX4_readArguments_13 {p : Program} {l : Launch} {e : Env} {s : State} {m : MethodId} {args : Array Value} {below : List Frame} {meth : Method} {c : Code} {G : GG} {SB : St} (C : Cx p s m args meth c G RX4 cX4_readArguments 4 (some .boolean)) {S : St} {H : Heap} {locs : List Loc} {ls : Array Slot}  {k : Int → St → Prop} (hw : Wd G ((injC SB) S) H) (hS : va_S (AG G) s.heap H locs) {xv1 : Int32} {x1 : Int} (xt1 : xv1.toInt = x1) {xv2 : Int32} {x2 : Int} (xt2 : xv2.toInt = x2) (hl : lv_has ls 4 [(0, .ref (G.2.2 1032)), (1, .int xv1), (2, .int xv2)])  (h : wX4_readArguments_13 S x1 x2 k) : W p l e (rmF 3 62) s m args below meth c H locs 0 0 (MQ below (QcI G (injC SB) k) args s 0 0 (AG G)) (F0 m 13 ls []) := by
  have key : ∀ (n : Nat) {H : Heap} {locs : List Loc} {ls : Array Slot} {S : St} {xv1 : Int32} {x1 : Int} {xv2 : Int32} {x2 : Int}, xv1.toInt = x1 → xv2.toInt = x2 → Wd G ((injC SB) S) H → va_S (AG G) s.heap H locs → lv_has ls 4 [(0, .ref (G.2.2 1032)), (1, .int xv1), (2, .int xv2)] → itP (fun (P : Int × Int × St → Prop) (a : Int × Int × St) => wX4_readArguments_13_b a.2.2 a.1 a.2.1 (fun b0 b1 b2 => P (b0, b1, b2)) k) n (x1, x2, S) → W p l e (rmF 3 62) s m args below meth c H locs 0 0 (MQ below (QcI G (injC SB) k) args s 0 0 (AG G)) (F0 m 13 ls []) := by
    intro n
    induction n with
    | zero => intro H locs ls S xv1 x1 xv2 x2 xt1 xt2 hw hS hl h; exact h.elim
    | succ n ih =>
      intro H locs ls S xv1 x1 xv2 x2 xt1 xt2 hw hS hl h
      exact uX4_readArguments_13_b C hw hS xt1 xt2 hl  (P13 := fun b0 b1 b2 => itP _ n (b0, b1, b2)) (fun q0 q1 hw hS hl h => ih q0 q1 hw hS hl h) h
  obtain ⟨n, hn⟩ := h
  exact key n xt1 xt2 hw hS hl hn
set_option maxHeartbeats 4000000 in
set_option maxRecDepth 10000 in
theorem uX4_readArguments_0 {p : Program} {l : Launch} {e : Env} {s : State} {m : MethodId} {args : Array Value} {below : List Frame} {meth : Method} {c : Code} {G : GG} {SB : St} (C : Cx p s m args meth c G RX4 cX4_readArguments 4 (some .boolean)) {S : St} {H : Heap} {locs : List Loc} {ls : Array Slot}  {k : Int → St → Prop} (hw : Wd G ((injC SB) S) H) (hS : va_S (AG G) s.heap H locs)  (hl : lv_has ls 4 [(0, .ref (G.2.2 1032))])  (h : wX4_readArguments_0 S k) : W p l e (rmF 3 62) s m args below meth c H locs 0 0 (MQ below (QcI G (injC SB) k) args s 0 0 (AG G)) (F0 m 0 ls []) := by
  refine y_iconst C dX4_readArguments_0 ⟨by decide, by decide⟩ (fun v1 t1 => ?_)
  refine lv_istore_n (lv' := [(1, .int v1), (0, .ref (G.2.2 1032))]) C.1.1 C.1.2.1 dX4_readArguments_1 rfl hl (by decide) rfl (fun ls hl => ?_)
  refine lv_aload_n C.1.1 C.1.2.1 dX4_readArguments_2 rfl (lv_at hl 1 rfl) ?_
  refine y_getI C fl_X4_60 hw (ock_4 SB) rfl dX4_readArguments_3 (fun v2 t2 => ?_)
  refine y_bipush C dX4_readArguments_6 ⟨by decide, by decide⟩ (fun v3 t3 => ?_)
  refine y_icmp_ne C t2 t3 dX4_readArguments_8 (tgt := 122) (by decide) (fun c4 => ?_) (fun c4 => ?_)
  · have h := h.1 c4
    exact uX4_readArguments_122 C hw hS t1 (lv_sub hl [1, 0] rfl)  h
  · have h := h.2 c4
    refine y_iconst C dX4_readArguments_11 ⟨by decide, by decide⟩ (fun v5 t5 => ?_)
    refine lv_istore_n (lv' := [(2, .int v5), (1, .int v1), (0, .ref (G.2.2 1032))]) C.1.1 C.1.2.1 dX4_readArguments_12 rfl hl (by decide) rfl (fun ls hl => ?_)
    exact uX4_readArguments_13 C hw hS t1 t5 (lv_sub hl [2, 1, 0] rfl)  h
theorem kX4_readArguments (l : Launch) (G : GG) (SB S : St)  {k : Int → St → Prop} (h : wX4_readArguments S k) : CnI l yX4_readArguments cX4_readArguments 4 (some .boolean) 3 62 G (injC SB) [.ref (G.2.2 1032)] S k :=
  cn_body (by decide +kernel) (Nat.le_of_ble_eq_true rfl) (fun p e s m args below meth c ls C hw hl => uX4_readArguments_0 C hw va_S.rf  (lv_sub hl [0] rfl) h)
set_option maxHeartbeats 4000000 in
set_option maxRecDepth 10000 in
theorem uX4_closeType_0 {p : Program} {l : Launch} {e : Env} {s : State} {m : MethodId} {args : Array Value} {below : List Frame} {meth : Method} {c : Code} {G : GG} {SB : St} (C : Cx p s m args meth c G RX4 cX4_closeType 2 (some .boolean)) {S : St} {H : Heap} {locs : List Loc} {ls : Array Slot}  {k : Int → St → Prop} (hw : Wd G ((injC SB) S) H) (hS : va_S (AG G) s.heap H locs)  (hl : lv_has ls 2 [(0, .ref (G.2.2 1032))])  (h : wX4_closeType_0 S k) : W p l e (rmF 5 117) s m args below meth c H locs 0 0 (MQ below (QcI G (injC SB) k) args s 0 0 (AG G)) (F0 m 0 ls []) := by
  refine lv_aload_n C.1.1 C.1.2.1 dX4_closeType_0 rfl (lv_at hl 0 rfl) ?_
  refine y_getS C fl_X4_28 hw (ock_4 SB) rfl (o := 1034) rfl dX4_closeType_1 ?_
  refine lv_aload_n C.1.1 C.1.2.1 dX4_closeType_4 rfl (lv_at hl 0 rfl) ?_
  obtain ⟨x_2, e2⟩ : ∃ z : Int, z = S 1032 3 := ⟨_, rfl⟩
  obtain ⟨o2, h⟩ := h x_2 e2
  refine y_getO C fl_X4_19 hw (ock_4 SB) rfl e2 o2 dX4_closeType_5 ?_
  refine lv_aload_n C.1.1 C.1.2.1 dX4_closeType_8 rfl (lv_at hl 0 rfl) ?_
  obtain ⟨x_3, e3⟩ : ∃ z : Int, z = S 1032 12 := ⟨_, rfl⟩
  obtain ⟨o3, h⟩ := h x_3 e3
  refine y_getO C fl_X4_38 hw (ock_4 SB) rfl e3 o3 dX4_closeType_9 ?_
  refine y_cVI C (As := [.ref (G.2.2 (x_2).toNat), .ref (G.2.2 (x_3).toNat)]) (rest := []) ml_X4_122 (kX0_close l G SB S o2 o3 h) (ock_0 SB) (T := TX0) (N := 5) rfl (by decide) ⟨(Nat.le_of_ble_eq_true rfl), (Nat.le_of_ble_eq_true rfl)⟩ hl.1 rfl rfl (Nat.le_of_ble_eq_true rfl) hw hS dX4_closeType_12 (fun v4 x_4 S_4 H locs t4 h hw hS => ?_)
  refine lv_istore_n (lv' := [(1, .int v4), (0, .ref (G.2.2 1032))]) C.1.1 C.1.2.1 dX4_closeType_15 rfl hl (by decide) rfl (fun ls hl => ?_)
  refine lv_iload_n C.1.1 C.1.2.1 dX4_closeType_16 rfl (lv_at hl 0 rfl) ?_
  refine y_if_eq C t4 dX4_closeType_17 (tgt := 26) (by decide) (fun c5 => ?_) (fun c5 => ?_)
  · have h := h.1 c5
    refine lv_aload_n C.1.1 C.1.2.1 dX4_closeType_26 rfl (lv_at hl 1 rfl) ?_
    refine y_iconst C dX4_closeType_27 ⟨by decide, by decide⟩ (fun v6 t6 => ?_)
    obtain ⟨S_7, e7⟩ : ∃ z : St, z = up S_4 1032 11 0 := ⟨_, rfl⟩
    have h := h S_7 e7
    refine y_putI C fl_X4_56 fp_4_11 hw hS (ock_4 SB) rfl t6 dX4_closeType_28 (fun H locs hw hS => ?_)
    have hw : Wd G ((injC SB) S_7) H := by rw [e7]; exact hw
    refine lv_aload_n C.1.1 C.1.2.1 dX4_closeType_31 rfl (lv_at hl 1 rfl) ?_
    refine y_cVV C (As := []) (rest := []) ml_X4_130 (kX4_advance l G SB S_7  h) (ock_4 SB) (T := TX4) (N := 15) rfl (by decide) ⟨(Nat.le_of_ble_eq_true rfl), (Nat.le_of_ble_eq_true rfl)⟩ hl.1 rfl rfl (Nat.le_of_ble_eq_true rfl) hw hS dX4_closeType_32 (fun S_8 H locs h hw hS => ?_)
    refine y_iconst C dX4_closeType_35 ⟨by decide, by decide⟩ (fun v9 t9 => ?_)
    exact y_zret C hw hS t9 (Or.inr rfl) h dX4_closeType_36
  · have h := h.2 c5
    refine lv_aload_n C.1.1 C.1.2.1 dX4_closeType_20 rfl (lv_at hl 1 rfl) ?_
    refine lv_iload_n C.1.1 C.1.2.1 dX4_closeType_21 rfl (lv_at hl 0 rfl) ?_
    refine y_cVI C (As := [.int v4]) (rest := []) ml_X4_126 (kX4_fail l G SB S_4 t4 h) (ock_4 SB) (T := TX4) (N := 15) rfl (by decide) ⟨(Nat.le_of_ble_eq_true rfl), (Nat.le_of_ble_eq_true rfl)⟩ hl.1 rfl rfl (Nat.le_of_ble_eq_true rfl) hw hS dX4_closeType_22 (fun v10 x_10 S_10 H locs t10 h hw hS => ?_)
    obtain ⟨z, h⟩ := h
    exact y_zret C hw hS t10 z h dX4_closeType_25
theorem kX4_closeType (l : Launch) (G : GG) (SB S : St)  {k : Int → St → Prop} (h : wX4_closeType S k) : CnI l yX4_closeType cX4_closeType 2 (some .boolean) 5 117 G (injC SB) [.ref (G.2.2 1032)] S k :=
  cn_body (by decide +kernel) (Nat.le_of_ble_eq_true rfl) (fun p e s m args below meth c ls C hw hl => uX4_closeType_0 C hw va_S.rf  (lv_sub hl [0] rfl) h)
set_option maxHeartbeats 4000000 in
set_option maxRecDepth 10000 in
theorem uX4_passFirst_24 {p : Program} {l : Launch} {e : Env} {s : State} {m : MethodId} {args : Array Value} {below : List Frame} {meth : Method} {c : Code} {G : GG} {SB : St} (C : Cx p s m args meth c G RX4 cX4_passFirst 1 (some .boolean)) {S : St} {H : Heap} {locs : List Loc} {ls : Array Slot}  {k : Int → St → Prop} (hw : Wd G ((injC SB) S) H) (hS : va_S (AG G) s.heap H locs)  (hl : lv_has ls 1 [(0, .ref (G.2.2 1032))])  (h : wX4_passFirst_24 S k) : W p l e (rmF 1 21) s m args below meth c H locs 0 0 (MQ below (QcI G (injC SB) k) args s 0 0 (AG G)) (F0 m 24 ls []) := by
  refine lv_aload_n C.1.1 C.1.2.1 dX4_passFirst_24 rfl (lv_at hl 0 rfl) ?_
  refine y_bipush C dX4_passFirst_25 ⟨by decide, by decide⟩ (fun v1 t1 => ?_)
  refine y_cVI C (As := [.int v1]) (rest := []) ml_X4_126 (kX4_fail l G SB S t1 h) (ock_4 SB) (T := TX4) (N := 15) rfl (by decide) ⟨(Nat.le_of_ble_eq_true rfl), (Nat.le_of_ble_eq_true rfl)⟩ hl.1 rfl rfl (Nat.le_of_ble_eq_true rfl) hw hS dX4_passFirst_27 (fun v2 x_2 S_2 H locs t2 h hw hS => ?_)
  obtain ⟨z, h⟩ := h
  exact y_zret C hw hS t2 z h dX4_passFirst_30
set_option maxHeartbeats 4000000 in
set_option maxRecDepth 10000 in
theorem uX4_passFirst_0 {p : Program} {l : Launch} {e : Env} {s : State} {m : MethodId} {args : Array Value} {below : List Frame} {meth : Method} {c : Code} {G : GG} {SB : St} (C : Cx p s m args meth c G RX4 cX4_passFirst 1 (some .boolean)) {S : St} {H : Heap} {locs : List Loc} {ls : Array Slot}  {k : Int → St → Prop} (hw : Wd G ((injC SB) S) H) (hS : va_S (AG G) s.heap H locs)  (hl : lv_has ls 1 [(0, .ref (G.2.2 1032))])  (h : wX4_passFirst_0 S k) : W p l e (rmF 1 21) s m args below meth c H locs 0 0 (MQ below (QcI G (injC SB) k) args s 0 0 (AG G)) (F0 m 0 ls []) := by
  refine lv_aload_n C.1.1 C.1.2.1 dX4_passFirst_0 rfl (lv_at hl 0 rfl) ?_
  obtain ⟨x_1, e1⟩ : ∃ z : Int, z = S 1032 12 := ⟨_, rfl⟩
  obtain ⟨o1, h⟩ := h x_1 e1
  refine y_getO C fl_X4_38 hw (ock_4 SB) rfl e1 o1 dX4_passFirst_1 ?_
  refine y_getI C fl_X4_266 hw (oc_of SB o1) rfl dX4_passFirst_4 (fun v2 t2 => ?_)
  refine y_bipush C dX4_passFirst_7 ⟨by decide, by decide⟩ (fun v3 t3 => ?_)
  refine y_icmp_ge C t2 t3 dX4_passFirst_9 (tgt := 24) (by decide) (fun c4 => ?_) (fun c4 => ?_)
  · have h := h.1 c4
    exact uX4_passFirst_24 C hw hS  (lv_sub hl [0] rfl)  h
  · have h := h.2 c4
    refine lv_aload_n C.1.1 C.1.2.1 dX4_passFirst_12 rfl (lv_at hl 0 rfl) ?_
    obtain ⟨x_5, e5⟩ : ∃ z : Int, z = S 1032 3 := ⟨_, rfl⟩
    obtain ⟨o5, h⟩ := h x_5 e5
    refine y_getO C fl_X4_19 hw (ock_4 SB) rfl e5 o5 dX4_passFirst_13 ?_
    refine y_getI C fl_X4_154 hw (oc_of SB o5) rfl dX4_passFirst_16 (fun v6 t6 => ?_)
    refine y_bipush C dX4_passFirst_19 ⟨by decide, by decide⟩ (fun v7 t7 => ?_)
    refine y_icmp_lt C t6 t7 dX4_passFirst_21 (tgt := 31) (by decide) (fun c8 => ?_) (fun c8 => ?_)
    · have h := h.1 c8
      refine lv_aload_n C.1.1 C.1.2.1 dX4_passFirst_31 rfl (lv_at hl 0 rfl) ?_
      refine y_cVV C (As := []) (rest := []) ml_X4_130 (kX4_advance l G SB S  h) (ock_4 SB) (T := TX4) (N := 15) rfl (by decide) ⟨(Nat.le_of_ble_eq_true rfl), (Nat.le_of_ble_eq_true rfl)⟩ hl.1 rfl rfl (Nat.le_of_ble_eq_true rfl) hw hS dX4_passFirst_32 (fun S_9 H locs h hw hS => ?_)
      refine y_iconst C dX4_passFirst_35 ⟨by decide, by decide⟩ (fun v10 t10 => ?_)
      exact y_zret C hw hS t10 (Or.inr rfl) h dX4_passFirst_36
    · have h := h.2 c8
      exact uX4_passFirst_24 C hw hS  (lv_sub hl [0] rfl)  h
theorem kX4_passFirst (l : Launch) (G : GG) (SB S : St)  {k : Int → St → Prop} (h : wX4_passFirst S k) : CnI l yX4_passFirst cX4_passFirst 1 (some .boolean) 1 21 G (injC SB) [.ref (G.2.2 1032)] S k :=
  cn_body (by decide +kernel) (Nat.le_of_ble_eq_true rfl) (fun p e s m args below meth c ls C hw hl => uX4_passFirst_0 C hw va_S.rf  (lv_sub hl [0] rfl) h)
set_option maxHeartbeats 4000000 in
set_option maxRecDepth 10000 in
theorem uX4_readAccess_59 {p : Program} {l : Launch} {e : Env} {s : State} {m : MethodId} {args : Array Value} {below : List Frame} {meth : Method} {c : Code} {G : GG} {SB : St} (C : Cx p s m args meth c G RX4 cX4_readAccess 1 (some .boolean)) {S : St} {H : Heap} {locs : List Loc} {ls : Array Slot}  {k : Int → St → Prop} (hw : Wd G ((injC SB) S) H) (hS : va_S (AG G) s.heap H locs) {s0 : Int} (so0 : isO 3 s0) {sv1 : Int32} {s1 : Int} (st1 : sv1.toInt = s1) (hl : lv_has ls 1 [(0, .ref (G.2.2 1032))])  (h : wX4_readAccess_59 S s0 s1 k) : W p l e (rmF 2 41) s m args below meth c H locs 0 0 (MQ below (QcI G (injC SB) k) args s 0 0 (AG G)) (F0 m 59 ls [.int sv1, .ref (G.2.2 (s0).toNat)]) := by
  obtain ⟨S_1, e1⟩ : ∃ z : St, z = up S s0 2 s1 := ⟨_, rfl⟩
  have h := h S_1 e1
  refine y_putI C fl_X4_248 fp_3_2 hw hS (oc_of SB so0) rfl st1 dX4_readAccess_59 (fun H locs hw hS => ?_)
  have hw : Wd G ((injC SB) S_1) H := by rw [e1]; exact hw
  refine lv_aload_n C.1.1 C.1.2.1 dX4_readAccess_62 rfl (lv_at hl 0 rfl) ?_
  refine y_cVI C (As := []) (rest := []) ml_X4_267 (kX4_passFirst l G SB S_1  h) (ock_4 SB) (T := TX4) (N := 15) rfl (by decide) ⟨(Nat.le_of_ble_eq_true rfl), (Nat.le_of_ble_eq_true rfl)⟩ hl.1 rfl rfl (Nat.le_of_ble_eq_true rfl) hw hS dX4_readAccess_63 (fun v2 x_2 S_2 H locs t2 h hw hS => ?_)
  obtain ⟨z, h⟩ := h
  exact y_zret C hw hS t2 z h dX4_readAccess_66
set_option maxHeartbeats 4000000 in
set_option maxRecDepth 10000 in
theorem uX4_readAccess_26 {p : Program} {l : Launch} {e : Env} {s : State} {m : MethodId} {args : Array Value} {below : List Frame} {meth : Method} {c : Code} {G : GG} {SB : St} (C : Cx p s m args meth c G RX4 cX4_readAccess 1 (some .boolean)) {S : St} {H : Heap} {locs : List Loc} {ls : Array Slot}  {k : Int → St → Prop} (hw : Wd G ((injC SB) S) H) (hS : va_S (AG G) s.heap H locs)  (hl : lv_has ls 1 [(0, .ref (G.2.2 1032))])  (h : wX4_readAccess_26 S k) : W p l e (rmF 2 41) s m args below meth c H locs 0 0 (MQ below (QcI G (injC SB) k) args s 0 0 (AG G)) (F0 m 26 ls []) := by
  refine lv_aload_n C.1.1 C.1.2.1 dX4_readAccess_26 rfl (lv_at hl 0 rfl) ?_
  obtain ⟨x_1, e1⟩ : ∃ z : Int, z = S 1032 14 := ⟨_, rfl⟩
  obtain ⟨o1, h⟩ := h x_1 e1
  refine y_getO C fl_X4_46 hw (ock_4 SB) rfl e1 o1 dX4_readAccess_27 ?_
  refine lv_aload_n C.1.1 C.1.2.1 dX4_readAccess_30 rfl (lv_at hl 0 rfl) ?_
  refine y_getI C fl_X4_60 hw (ock_4 SB) rfl dX4_readAccess_31 (fun v2 t2 => ?_)
  refine y_sipush C dX4_readAccess_34 ⟨by decide, by decide⟩ (fun v3 t3 => ?_)
  refine y_icmp_ne C t2 t3 dX4_readAccess_37 (tgt := 44) (by decide) (fun c4 => ?_) (fun c4 => ?_)
  · have h := h.1 c4
    refine lv_aload_n C.1.1 C.1.2.1 dX4_readAccess_44 rfl (lv_at hl 0 rfl) ?_
    refine y_getI C fl_X4_60 hw (ock_4 SB) rfl dX4_readAccess_45 (fun v5 t5 => ?_)
    refine y_sipush C dX4_readAccess_48 ⟨by decide, by decide⟩ (fun v6 t6 => ?_)
    refine y_icmp_ne C t5 t6 dX4_readAccess_51 (tgt := 58) (by decide) (fun c7 => ?_) (fun c7 => ?_)
    · have h := h.1 c7
      refine y_iconst C dX4_readAccess_58 ⟨by decide, by decide⟩ (fun v8 t8 => ?_)
      exact uX4_readAccess_59 C hw hS o1 t8 (lv_sub hl [0] rfl)  h
    · have h := h.2 c7
      refine y_iconst C dX4_readAccess_54 ⟨by decide, by decide⟩ (fun v9 t9 => ?_)
      refine lv_goto (tgt := 59) C.1.1 C.1.2.1 dX4_readAccess_55 (by decide) ?_
      exact uX4_readAccess_59 C hw hS o1 t9 (lv_sub hl [0] rfl)  h
  · have h := h.2 c4
    refine y_iconst C dX4_readAccess_40 ⟨by decide, by decide⟩ (fun v10 t10 => ?_)
    refine lv_goto (tgt := 59) C.1.1 C.1.2.1 dX4_readAccess_41 (by decide) ?_
    exact uX4_readAccess_59 C hw hS o1 t10 (lv_sub hl [0] rfl)  h
set_option maxHeartbeats 4000000 in
set_option maxRecDepth 10000 in
theorem uX4_readAccess_0 {p : Program} {l : Launch} {e : Env} {s : State} {m : MethodId} {args : Array Value} {below : List Frame} {meth : Method} {c : Code} {G : GG} {SB : St} (C : Cx p s m args meth c G RX4 cX4_readAccess 1 (some .boolean)) {S : St} {H : Heap} {locs : List Loc} {ls : Array Slot}  {k : Int → St → Prop} (hw : Wd G ((injC SB) S) H) (hS : va_S (AG G) s.heap H locs)  (hl : lv_has ls 1 [(0, .ref (G.2.2 1032))])  (h : wX4_readAccess_0 S k) : W p l e (rmF 2 41) s m args below meth c H locs 0 0 (MQ below (QcI G (injC SB) k) args s 0 0 (AG G)) (F0 m 0 ls []) := by
  refine lv_aload_n C.1.1 C.1.2.1 dX4_readAccess_0 rfl (lv_at hl 0 rfl) ?_
  refine y_getI C fl_X4_60 hw (ock_4 SB) rfl dX4_readAccess_1 (fun v1 t1 => ?_)
  refine y_sipush C dX4_readAccess_4 ⟨by decide, by decide⟩ (fun v2 t2 => ?_)
  refine y_icmp_ne C t1 t2 dX4_readAccess_7 (tgt := 26) (by decide) (fun c3 => ?_) (fun c3 => ?_)
  · have h := h.1 c3
    exact uX4_readAccess_26 C hw hS  (lv_sub hl [0] rfl)  h
  · have h := h.2 c3
    refine lv_aload_n C.1.1 C.1.2.1 dX4_readAccess_10 rfl (lv_at hl 0 rfl) ?_
    obtain ⟨x_4, e4⟩ : ∃ z : Int, z = S 1032 12 := ⟨_, rfl⟩
    obtain ⟨o4, h⟩ := h x_4 e4
    refine y_getO C fl_X4_38 hw (ock_4 SB) rfl e4 o4 dX4_readAccess_11 ?_
    refine y_cVIp C (As := []) (rest := []) ml_X4_203 (kX6_isFace l G SB S o4 h) (oc_of SB o4) (T := TX6) (N := 20) rfl (by decide) ⟨(Nat.le_of_ble_eq_true rfl), (Nat.le_of_ble_eq_true rfl)⟩ hl.1 rfl rfl (Nat.le_of_ble_eq_true rfl) hw hS dX4_readAccess_14 (fun v5 x_5 H locs t5 h hw hS => ?_)
    refine y_if_eq C t5 dX4_readAccess_17 (tgt := 26) (by decide) (fun c6 => ?_) (fun c6 => ?_)
    · have h := h.1 c6
      exact uX4_readAccess_26 C hw hS  (lv_sub hl [0] rfl)  h
    · have h := h.2 c6
      refine lv_aload_n C.1.1 C.1.2.1 dX4_readAccess_20 rfl (lv_at hl 0 rfl) ?_
      refine y_iconst C dX4_readAccess_21 ⟨by decide, by decide⟩ (fun v7 t7 => ?_)
      refine y_cVI C (As := [.int v7]) (rest := []) ml_X4_126 (kX4_fail l G SB S t7 h) (ock_4 SB) (T := TX4) (N := 15) rfl (by decide) ⟨(Nat.le_of_ble_eq_true rfl), (Nat.le_of_ble_eq_true rfl)⟩ hl.1 rfl rfl (Nat.le_of_ble_eq_true rfl) hw hS dX4_readAccess_22 (fun v8 x_8 S_8 H locs t8 h hw hS => ?_)
      obtain ⟨z, h⟩ := h
      exact y_zret C hw hS t8 z h dX4_readAccess_25
theorem kX4_readAccess (l : Launch) (G : GG) (SB S : St)  {k : Int → St → Prop} (h : wX4_readAccess S k) : CnI l yX4_readAccess cX4_readAccess 1 (some .boolean) 2 41 G (injC SB) [.ref (G.2.2 1032)] S k :=
  cn_body (by decide +kernel) (Nat.le_of_ble_eq_true rfl) (fun p e s m args below meth c ls C hw hl => uX4_readAccess_0 C hw va_S.rf  (lv_sub hl [0] rfl) h)
set_option maxHeartbeats 4000000 in
set_option maxRecDepth 10000 in
theorem uX4_readForm_70 {p : Program} {l : Launch} {e : Env} {s : State} {m : MethodId} {args : Array Value} {below : List Frame} {meth : Method} {c : Code} {G : GG} {SB : St} (C : Cx p s m args meth c G RX4 cX4_readForm 3 (some .boolean)) {S : St} {H : Heap} {locs : List Loc} {ls : Array Slot}  {k : Int → St → Prop} (hw : Wd G ((injC SB) S) H) (hS : va_S (AG G) s.heap H locs)  (hl : lv_has ls 3 [(0, .ref (G.2.2 1032))])  (h : wX4_readForm_70 S k) : W p l e (rmF 2 41) s m args below meth c H locs 0 0 (MQ below (QcI G (injC SB) k) args s 0 0 (AG G)) (F0 m 70 ls []) := by
  refine lv_aload_n C.1.1 C.1.2.1 dX4_readForm_70 rfl (lv_at hl 0 rfl) ?_
  refine y_iconst C dX4_readForm_71 ⟨by decide, by decide⟩ (fun v1 t1 => ?_)
  refine y_cVI C (As := [.int v1]) (rest := []) ml_X4_126 (kX4_fail l G SB S t1 h) (ock_4 SB) (T := TX4) (N := 15) rfl (by decide) ⟨(Nat.le_of_ble_eq_true rfl), (Nat.le_of_ble_eq_true rfl)⟩ hl.1 rfl rfl (Nat.le_of_ble_eq_true rfl) hw hS dX4_readForm_72 (fun v2 x_2 S_2 H locs t2 h hw hS => ?_)
  obtain ⟨z, h⟩ := h
  exact y_zret C hw hS t2 z h dX4_readForm_75
set_option maxHeartbeats 4000000 in
set_option maxRecDepth 10000 in
theorem uX4_readForm_109 {p : Program} {l : Launch} {e : Env} {s : State} {m : MethodId} {args : Array Value} {below : List Frame} {meth : Method} {c : Code} {G : GG} {SB : St} (C : Cx p s m args meth c G RX4 cX4_readForm 3 (some .boolean)) {S : St} {H : Heap} {locs : List Loc} {ls : Array Slot}  {k : Int → St → Prop} (hw : Wd G ((injC SB) S) H) (hS : va_S (AG G) s.heap H locs) {s0 : Int} (so0 : isO 3 s0) {sv1 : Int32} {s1 : Int} (st1 : sv1.toInt = s1) (hl : lv_has ls 3 [(0, .ref (G.2.2 1032))])  (h : wX4_readForm_109 S s0 s1 k) : W p l e (rmF 2 41) s m args below meth c H locs 0 0 (MQ below (QcI G (injC SB) k) args s 0 0 (AG G)) (F0 m 109 ls [.int sv1, .ref (G.2.2 (s0).toNat)]) := by
  obtain ⟨S_1, e1⟩ : ∃ z : St, z = up S s0 3 s1 := ⟨_, rfl⟩
  have h := h S_1 e1
  refine y_putI C fl_X4_251 fp_3_3 hw hS (oc_of SB so0) rfl st1 dX4_readForm_109 (fun H locs hw hS => ?_)
  have hw : Wd G ((injC SB) S_1) H := by rw [e1]; exact hw
  refine lv_aload_n C.1.1 C.1.2.1 dX4_readForm_112 rfl (lv_at hl 0 rfl) ?_
  refine y_cVI C (As := []) (rest := []) ml_X4_267 (kX4_passFirst l G SB S_1  h) (ock_4 SB) (T := TX4) (N := 15) rfl (by decide) ⟨(Nat.le_of_ble_eq_true rfl), (Nat.le_of_ble_eq_true rfl)⟩ hl.1 rfl rfl (Nat.le_of_ble_eq_true rfl) hw hS dX4_readForm_113 (fun v2 x_2 S_2 H locs t2 h hw hS => ?_)
  obtain ⟨z, h⟩ := h
  exact y_zret C hw hS t2 z h dX4_readForm_116
set_option maxHeartbeats 4000000 in
set_option maxRecDepth 10000 in
theorem uX4_readForm_61 {p : Program} {l : Launch} {e : Env} {s : State} {m : MethodId} {args : Array Value} {below : List Frame} {meth : Method} {c : Code} {G : GG} {SB : St} (C : Cx p s m args meth c G RX4 cX4_readForm 3 (some .boolean)) {S : St} {H : Heap} {locs : List Loc} {ls : Array Slot}  {k : Int → St → Prop} (hw : Wd G ((injC SB) S) H) (hS : va_S (AG G) s.heap H locs) {xv1 : Int32} {x1 : Int} (xt1 : xv1.toInt = x1) {sv0 : Int32} {s0 : Int} (st0 : sv0.toInt = s0) (hl : lv_has ls 3 [(0, .ref (G.2.2 1032)), (1, .int xv1)])  (h : wX4_readForm_61 S x1 s0 k) : W p l e (rmF 2 41) s m args below meth c H locs 0 0 (MQ below (QcI G (injC SB) k) args s 0 0 (AG G)) (F0 m 61 ls [.int sv0]) := by
  refine lv_istore_n (lv' := [(2, .int sv0), (0, .ref (G.2.2 1032)), (1, .int xv1)]) C.1.1 C.1.2.1 dX4_readForm_61 rfl hl (by decide) rfl (fun ls hl => ?_)
  refine lv_iload_n C.1.1 C.1.2.1 dX4_readForm_62 rfl (lv_at hl 2 rfl) ?_
  refine y_if_ne C xt1 dX4_readForm_63 (tgt := 70) (by decide) (fun c1 => ?_) (fun c1 => ?_)
  · have h := h.1 c1
    exact uX4_readForm_70 C hw hS  (lv_sub hl [1] rfl)  h
  · have h := h.2 c1
    refine lv_iload_n C.1.1 C.1.2.1 dX4_readForm_66 rfl (lv_at hl 0 rfl) ?_
    refine y_if_eq C st0 dX4_readForm_67 (tgt := 76) (by decide) (fun c2 => ?_) (fun c2 => ?_)
    · have h := h.1 c2
      refine lv_aload_n C.1.1 C.1.2.1 dX4_readForm_76 rfl (lv_at hl 1 rfl) ?_
      obtain ⟨x_3, e3⟩ : ∃ z : Int, z = S 1032 14 := ⟨_, rfl⟩
      obtain ⟨o3, h⟩ := h x_3 e3
      refine y_getO C fl_X4_46 hw (ock_4 SB) rfl e3 o3 dX4_readForm_77 ?_
      refine lv_aload_n C.1.1 C.1.2.1 dX4_readForm_80 rfl (lv_at hl 1 rfl) ?_
      refine y_getI C fl_X4_60 hw (ock_4 SB) rfl dX4_readForm_81 (fun v4 t4 => ?_)
      refine y_sipush C dX4_readForm_84 ⟨by decide, by decide⟩ (fun v5 t5 => ?_)
      refine y_icmp_ne C t4 t5 dX4_readForm_87 (tgt := 94) (by decide) (fun c6 => ?_) (fun c6 => ?_)
      · have h := h.1 c6
        refine lv_aload_n C.1.1 C.1.2.1 dX4_readForm_94 rfl (lv_at hl 1 rfl) ?_
        refine y_getI C fl_X4_60 hw (ock_4 SB) rfl dX4_readForm_95 (fun v7 t7 => ?_)
        refine y_sipush C dX4_readForm_98 ⟨by decide, by decide⟩ (fun v8 t8 => ?_)
        refine y_icmp_ne C t7 t8 dX4_readForm_101 (tgt := 108) (by decide) (fun c9 => ?_) (fun c9 => ?_)
        · have h := h.1 c9
          refine y_iconst C dX4_readForm_108 ⟨by decide, by decide⟩ (fun v10 t10 => ?_)
          exact uX4_readForm_109 C hw hS o3 t10 (lv_sub hl [1] rfl)  h
        · have h := h.2 c9
          refine y_iconst C dX4_readForm_104 ⟨by decide, by decide⟩ (fun v11 t11 => ?_)
          refine lv_goto (tgt := 109) C.1.1 C.1.2.1 dX4_readForm_105 (by decide) ?_
          exact uX4_readForm_109 C hw hS o3 t11 (lv_sub hl [1] rfl)  h
      · have h := h.2 c6
        refine y_iconst C dX4_readForm_90 ⟨by decide, by decide⟩ (fun v12 t12 => ?_)
        refine lv_goto (tgt := 109) C.1.1 C.1.2.1 dX4_readForm_91 (by decide) ?_
        exact uX4_readForm_109 C hw hS o3 t12 (lv_sub hl [1] rfl)  h
    · have h := h.2 c2
      exact uX4_readForm_70 C hw hS  (lv_sub hl [1] rfl)  h
set_option maxHeartbeats 4000000 in
set_option maxRecDepth 10000 in
theorem uX4_readForm_56 {p : Program} {l : Launch} {e : Env} {s : State} {m : MethodId} {args : Array Value} {below : List Frame} {meth : Method} {c : Code} {G : GG} {SB : St} (C : Cx p s m args meth c G RX4 cX4_readForm 3 (some .boolean)) {S : St} {H : Heap} {locs : List Loc} {ls : Array Slot}  {k : Int → St → Prop} (hw : Wd G ((injC SB) S) H) (hS : va_S (AG G) s.heap H locs) {xv1 : Int32} {x1 : Int} (xt1 : xv1.toInt = x1) (hl : lv_has ls 3 [(0, .ref (G.2.2 1032)), (1, .int xv1)])  (h : wX4_readForm_56 S x1 k) : W p l e (rmF 2 41) s m args below meth c H locs 0 0 (MQ below (QcI G (injC SB) k) args s 0 0 (AG G)) (F0 m 56 ls []) := by
  refine y_iconst C dX4_readForm_56 ⟨by decide, by decide⟩ (fun v1 t1 => ?_)
  refine lv_goto (tgt := 61) C.1.1 C.1.2.1 dX4_readForm_57 (by decide) ?_
  exact uX4_readForm_61 C hw hS xt1 t1 (lv_sub hl [0, 1] rfl)  h
set_option maxHeartbeats 4000000 in
set_option maxRecDepth 10000 in
theorem uX4_readForm_60 {p : Program} {l : Launch} {e : Env} {s : State} {m : MethodId} {args : Array Value} {below : List Frame} {meth : Method} {c : Code} {G : GG} {SB : St} (C : Cx p s m args meth c G RX4 cX4_readForm 3 (some .boolean)) {S : St} {H : Heap} {locs : List Loc} {ls : Array Slot}  {k : Int → St → Prop} (hw : Wd G ((injC SB) S) H) (hS : va_S (AG G) s.heap H locs) {xv1 : Int32} {x1 : Int} (xt1 : xv1.toInt = x1) (hl : lv_has ls 3 [(0, .ref (G.2.2 1032)), (1, .int xv1)])  (h : wX4_readForm_60 S x1 k) : W p l e (rmF 2 41) s m args below meth c H locs 0 0 (MQ below (QcI G (injC SB) k) args s 0 0 (AG G)) (F0 m 60 ls []) := by
  refine y_iconst C dX4_readForm_60 ⟨by decide, by decide⟩ (fun v1 t1 => ?_)
  exact uX4_readForm_61 C hw hS xt1 t1 (lv_sub hl [0, 1] rfl)  h
set_option maxHeartbeats 4000000 in
set_option maxRecDepth 10000 in
theorem uX4_readForm_25 {p : Program} {l : Launch} {e : Env} {s : State} {m : MethodId} {args : Array Value} {below : List Frame} {meth : Method} {c : Code} {G : GG} {SB : St} (C : Cx p s m args meth c G RX4 cX4_readForm 3 (some .boolean)) {S : St} {H : Heap} {locs : List Loc} {ls : Array Slot}  {k : Int → St → Prop} (hw : Wd G ((injC SB) S) H) (hS : va_S (AG G) s.heap H locs) {sv0 : Int32} {s0 : Int} (st0 : sv0.toInt = s0) (hl : lv_has ls 3 [(0, .ref (G.2.2 1032))])  (h : wX4_readForm_25 S s0 k) : W p l e (rmF 2 41) s m args below meth c H locs 0 0 (MQ below (QcI G (injC SB) k) args s 0 0 (AG G)) (F0 m 25 ls [.int sv0]) := by
  refine lv_istore_n (lv' := [(1, .int sv0), (0, .ref (G.2.2 1032))]) C.1.1 C.1.2.1 dX4_readForm_25 rfl hl (by decide) rfl (fun ls hl => ?_)
  refine lv_aload_n C.1.1 C.1.2.1 dX4_readForm_26 rfl (lv_at hl 1 rfl) ?_
  refine y_getI C fl_X4_60 hw (ock_4 SB) rfl dX4_readForm_27 (fun v1 t1 => ?_)
  refine y_sipush C dX4_readForm_30 ⟨by decide, by decide⟩ (fun v2 t2 => ?_)
  refine y_icmp_ne C t1 t2 dX4_readForm_33 (tgt := 60) (by decide) (fun c3 => ?_) (fun c3 => ?_)
  · have h := h.1 c3
    exact uX4_readForm_60 C hw hS st0 (lv_sub hl [1, 0] rfl)  h
  · have h := h.2 c3
    refine lv_aload_n C.1.1 C.1.2.1 dX4_readForm_36 rfl (lv_at hl 1 rfl) ?_
    obtain ⟨x_4, e4⟩ : ∃ z : Int, z = S 1032 12 := ⟨_, rfl⟩
    obtain ⟨o4, h⟩ := h x_4 e4
    refine y_getO C fl_X4_38 hw (ock_4 SB) rfl e4 o4 dX4_readForm_37 ?_
    refine y_getI C fl_X4_270 hw (oc_of SB o4) rfl dX4_readForm_40 (fun v5 t5 => ?_)
    refine y_if_eq C t5 dX4_readForm_43 (tgt := 56) (by decide) (fun c6 => ?_) (fun c6 => ?_)
    · have h := h.1 c6
      exact uX4_readForm_56 C hw hS st0 (lv_sub hl [1, 0] rfl)  h
    · have h := h.2 c6
      refine lv_aload_n C.1.1 C.1.2.1 dX4_readForm_46 rfl (lv_at hl 1 rfl) ?_
      obtain ⟨x_7, e7⟩ : ∃ z : Int, z = S 1032 14 := ⟨_, rfl⟩
      obtain ⟨o7, h⟩ := h x_7 e7
      refine y_getO C fl_X4_46 hw (ock_4 SB) rfl e7 o7 dX4_readForm_47 ?_
      refine y_cVIp C (As := []) (rest := []) ml_X4_273 (kX3_isOwn l G SB S o7 h) (oc_of SB o7) (T := TX3) (N := 8) rfl (by decide) ⟨(Nat.le_of_ble_eq_true rfl), (Nat.le_of_ble_eq_true rfl)⟩ hl.1 rfl rfl (Nat.le_of_ble_eq_true rfl) hw hS dX4_readForm_50 (fun v8 x_8 H locs t8 h hw hS => ?_)
      refine y_if_eq C t8 dX4_readForm_53 (tgt := 60) (by decide) (fun c9 => ?_) (fun c9 => ?_)
      · have h := h.1 c9
        exact uX4_readForm_60 C hw hS st0 (lv_sub hl [1, 0] rfl)  h
      · have h := h.2 c9
        exact uX4_readForm_56 C hw hS st0 (lv_sub hl [1, 0] rfl)  h
set_option maxHeartbeats 4000000 in
set_option maxRecDepth 10000 in
theorem uX4_readForm_24 {p : Program} {l : Launch} {e : Env} {s : State} {m : MethodId} {args : Array Value} {below : List Frame} {meth : Method} {c : Code} {G : GG} {SB : St} (C : Cx p s m args meth c G RX4 cX4_readForm 3 (some .boolean)) {S : St} {H : Heap} {locs : List Loc} {ls : Array Slot}  {k : Int → St → Prop} (hw : Wd G ((injC SB) S) H) (hS : va_S (AG G) s.heap H locs)  (hl : lv_has ls 3 [(0, .ref (G.2.2 1032))])  (h : wX4_readForm_24 S k) : W p l e (rmF 2 41) s m args below meth c H locs 0 0 (MQ below (QcI G (injC SB) k) args s 0 0 (AG G)) (F0 m 24 ls []) := by
  refine y_iconst C dX4_readForm_24 ⟨by decide, by decide⟩ (fun v1 t1 => ?_)
  exact uX4_readForm_25 C hw hS t1 (lv_sub hl [0] rfl)  h
set_option maxHeartbeats 4000000 in
set_option maxRecDepth 10000 in
theorem uX4_readForm_0 {p : Program} {l : Launch} {e : Env} {s : State} {m : MethodId} {args : Array Value} {below : List Frame} {meth : Method} {c : Code} {G : GG} {SB : St} (C : Cx p s m args meth c G RX4 cX4_readForm 3 (some .boolean)) {S : St} {H : Heap} {locs : List Loc} {ls : Array Slot}  {k : Int → St → Prop} (hw : Wd G ((injC SB) S) H) (hS : va_S (AG G) s.heap H locs)  (hl : lv_has ls 3 [(0, .ref (G.2.2 1032))])  (h : wX4_readForm_0 S k) : W p l e (rmF 2 41) s m args below meth c H locs 0 0 (MQ below (QcI G (injC SB) k) args s 0 0 (AG G)) (F0 m 0 ls []) := by
  refine lv_aload_n C.1.1 C.1.2.1 dX4_readForm_0 rfl (lv_at hl 0 rfl) ?_
  refine y_getI C fl_X4_60 hw (ock_4 SB) rfl dX4_readForm_1 (fun v1 t1 => ?_)
  refine y_sipush C dX4_readForm_4 ⟨by decide, by decide⟩ (fun v2 t2 => ?_)
  refine y_icmp_ne C t1 t2 dX4_readForm_7 (tgt := 24) (by decide) (fun c3 => ?_) (fun c3 => ?_)
  · have h := h.1 c3
    exact uX4_readForm_24 C hw hS  (lv_sub hl [0] rfl)  h
  · have h := h.2 c3
    refine lv_aload_n C.1.1 C.1.2.1 dX4_readForm_10 rfl (lv_at hl 0 rfl) ?_
    obtain ⟨x_4, e4⟩ : ∃ z : Int, z = S 1032 12 := ⟨_, rfl⟩
    obtain ⟨o4, h⟩ := h x_4 e4
    refine y_getO C fl_X4_38 hw (ock_4 SB) rfl e4 o4 dX4_readForm_11 ?_
    refine y_cVIp C (As := []) (rest := []) ml_X4_203 (kX6_isFace l G SB S o4 h) (oc_of SB o4) (T := TX6) (N := 20) rfl (by decide) ⟨(Nat.le_of_ble_eq_true rfl), (Nat.le_of_ble_eq_true rfl)⟩ hl.1 rfl rfl (Nat.le_of_ble_eq_true rfl) hw hS dX4_readForm_14 (fun v5 x_5 H locs t5 h hw hS => ?_)
    refine y_if_ne C t5 dX4_readForm_17 (tgt := 24) (by decide) (fun c6 => ?_) (fun c6 => ?_)
    · have h := h.1 c6
      exact uX4_readForm_24 C hw hS  (lv_sub hl [0] rfl)  h
    · have h := h.2 c6
      refine y_iconst C dX4_readForm_20 ⟨by decide, by decide⟩ (fun v7 t7 => ?_)
      refine lv_goto (tgt := 25) C.1.1 C.1.2.1 dX4_readForm_21 (by decide) ?_
      exact uX4_readForm_25 C hw hS t7 (lv_sub hl [0] rfl)  h
theorem kX4_readForm (l : Launch) (G : GG) (SB S : St)  {k : Int → St → Prop} (h : wX4_readForm S k) : CnI l yX4_readForm cX4_readForm 3 (some .boolean) 2 41 G (injC SB) [.ref (G.2.2 1032)] S k :=
  cn_body (by decide +kernel) (Nat.le_of_ble_eq_true rfl) (fun p e s m args below meth c ls C hw hl => uX4_readForm_0 C hw va_S.rf  (lv_sub hl [0] rfl) h)
set_option maxHeartbeats 4000000 in
set_option maxRecDepth 10000 in
theorem uX4_seesKind_46 {p : Program} {l : Launch} {e : Env} {s : State} {m : MethodId} {args : Array Value} {below : List Frame} {meth : Method} {c : Code} {G : GG} {SB : St} (C : Cx p s m args meth c G RX4 cX4_seesKind 3 (some .boolean)) {S : St} {H : Heap} {locs : List Loc} {ls : Array Slot}  {k : Int → St → Prop} (hw : Wd G ((injC SB) S) H) (hS : va_S (AG G) s.heap H locs) {xv1 : Int32} {x1 : Int} (xt1 : xv1.toInt = x1) {sv0 : Int32} {s0 : Int} (st0 : sv0.toInt = s0) (hl : lv_has ls 3 [(0, .ref (G.2.2 1032)), (1, .int xv1)])  (h : wX4_seesKind_46 S x1 s0 k) : W p l e (rmF 2 48) s m args below meth c H locs 0 0 (MQ below (QcI G (injC SB) k) args s 0 0 (AG G)) (F0 m 46 ls [.int sv0]) := by
  refine lv_istore_n (lv' := [(2, .int sv0), (0, .ref (G.2.2 1032)), (1, .int xv1)]) C.1.1 C.1.2.1 dX4_seesKind_46 rfl hl (by decide) rfl (fun ls hl => ?_)
  refine lv_aload_n C.1.1 C.1.2.1 dX4_seesKind_47 rfl (lv_at hl 1 rfl) ?_
  obtain ⟨x_1, e1⟩ : ∃ z : Int, z = S 1032 14 := ⟨_, rfl⟩
  obtain ⟨o1, h⟩ := h x_1 e1
  refine y_getO C fl_X4_46 hw (ock_4 SB) rfl e1 o1 dX4_seesKind_48 ?_
  refine y_getA C fl_X4_279 hw (oc_of SB o1) rfl (o := 1) rfl dX4_seesKind_51 ?_
  refine lv_iload_n C.1.1 C.1.2.1 dX4_seesKind_54 rfl (lv_at hl 2 rfl) ?_
  refine lv_iload_n C.1.1 C.1.2.1 dX4_seesKind_55 rfl (lv_at hl 0 rfl) ?_
  obtain ⟨b3, h⟩ := h
  obtain ⟨S_3, e3⟩ : ∃ z : St, z = up S (x_1 + 1) x1 s0 := ⟨_, rfl⟩
  have h := h S_3 e3
  refine y_iast C hw hS (ac_3_5 SB o1) xt1 st0 b3 dX4_seesKind_56 (fun H locs hw hS => ?_)
  have hw : Wd G ((injC SB) S_3) H := by rw [e3]; exact hw
  refine lv_iload_n C.1.1 C.1.2.1 dX4_seesKind_57 rfl (lv_at hl 0 rfl) ?_
  refine y_bipush C dX4_seesKind_58 ⟨by decide, by decide⟩ (fun v4 t4 => ?_)
  refine y_icmp_ne C st0 t4 dX4_seesKind_60 (tgt := 71) (by decide) (fun c5 => ?_) (fun c5 => ?_)
  · have h := h.1 c5
    refine y_iconst C dX4_seesKind_71 ⟨by decide, by decide⟩ (fun v6 t6 => ?_)
    refine lv_goto (tgt := 76) C.1.1 C.1.2.1 dX4_seesKind_72 (by decide) ?_
    exact y_zret C hw hS t6 (Or.inr rfl) h dX4_seesKind_76
  · have h := h.2 c5
    refine lv_aload_n C.1.1 C.1.2.1 dX4_seesKind_63 rfl (lv_at hl 1 rfl) ?_
    refine y_iconst C dX4_seesKind_64 ⟨by decide, by decide⟩ (fun v7 t7 => ?_)
    refine y_cVI C (As := [.int v7]) (rest := []) ml_X4_126 (kX4_fail l G SB S_3 t7 h) (ock_4 SB) (T := TX4) (N := 15) rfl (by decide) ⟨(Nat.le_of_ble_eq_true rfl), (Nat.le_of_ble_eq_true rfl)⟩ hl.1 rfl rfl (Nat.le_of_ble_eq_true rfl) hw hS dX4_seesKind_65 (fun v8 x_8 S_8 H locs t8 h hw hS => ?_)
    refine y_if_eq C t8 dX4_seesKind_68 (tgt := 75) (by decide) (fun c9 => ?_) (fun c9 => ?_)
    · have h := h.1 c9
      refine y_iconst C dX4_seesKind_75 ⟨by decide, by decide⟩ (fun v10 t10 => ?_)
      exact y_zret C hw hS t10 (Or.inl rfl) h dX4_seesKind_76
    · have h := h.2 c9
      refine y_iconst C dX4_seesKind_71 ⟨by decide, by decide⟩ (fun v11 t11 => ?_)
      refine lv_goto (tgt := 76) C.1.1 C.1.2.1 dX4_seesKind_72 (by decide) ?_
      exact y_zret C hw hS t11 (Or.inr rfl) h dX4_seesKind_76
set_option maxHeartbeats 4000000 in
set_option maxRecDepth 10000 in
theorem uX4_seesKind_23 {p : Program} {l : Launch} {e : Env} {s : State} {m : MethodId} {args : Array Value} {below : List Frame} {meth : Method} {c : Code} {G : GG} {SB : St} (C : Cx p s m args meth c G RX4 cX4_seesKind 3 (some .boolean)) {S : St} {H : Heap} {locs : List Loc} {ls : Array Slot}  {k : Int → St → Prop} (hw : Wd G ((injC SB) S) H) (hS : va_S (AG G) s.heap H locs) {xv1 : Int32} {x1 : Int} (xt1 : xv1.toInt = x1) (hl : lv_has ls 3 [(0, .ref (G.2.2 1032)), (1, .int xv1)])  (h : wX4_seesKind_23 S x1 k) : W p l e (rmF 2 48) s m args below meth c H locs 0 0 (MQ below (QcI G (injC SB) k) args s 0 0 (AG G)) (F0 m 23 ls []) := by
  refine lv_aload_n C.1.1 C.1.2.1 dX4_seesKind_23 rfl (lv_at hl 0 rfl) ?_
  refine y_getI C fl_X4_60 hw (ock_4 SB) rfl dX4_seesKind_24 (fun v1 t1 => ?_)
  refine y_sipush C dX4_seesKind_27 ⟨by decide, by decide⟩ (fun v2 t2 => ?_)
  refine y_icmp_ne C t1 t2 dX4_seesKind_30 (tgt := 38) (by decide) (fun c3 => ?_) (fun c3 => ?_)
  · have h := h.1 c3
    refine lv_aload_n C.1.1 C.1.2.1 dX4_seesKind_38 rfl (lv_at hl 0 rfl) ?_
    refine lv_aload_n C.1.1 C.1.2.1 dX4_seesKind_39 rfl (lv_at hl 0 rfl) ?_
    refine y_getJ C fl_X4_94 hw (ock_4 SB) rfl dX4_seesKind_40 (fun v4 t4 => ?_)
    refine y_cVIp C (As := [.long v4]) (rest := []) ml_X4_234 (kX4_kindNamed l G SB S t4 h) (ock_4 SB) (T := TX4) (N := 15) rfl (by decide) ⟨(Nat.le_of_ble_eq_true rfl), (Nat.le_of_ble_eq_true rfl)⟩ hl.1 rfl rfl (Nat.le_of_ble_eq_true rfl) hw hS dX4_seesKind_43 (fun v5 x_5 H locs t5 h hw hS => ?_)
    exact uX4_seesKind_46 C hw hS xt1 t5 (lv_sub hl [0, 1] rfl)  h
  · have h := h.2 c3
    refine y_bipush C dX4_seesKind_33 ⟨by decide, by decide⟩ (fun v6 t6 => ?_)
    refine lv_goto (tgt := 46) C.1.1 C.1.2.1 dX4_seesKind_35 (by decide) ?_
    exact uX4_seesKind_46 C hw hS xt1 t6 (lv_sub hl [0, 1] rfl)  h
set_option maxHeartbeats 4000000 in
set_option maxRecDepth 10000 in
theorem uX4_seesKind_0 {p : Program} {l : Launch} {e : Env} {s : State} {m : MethodId} {args : Array Value} {below : List Frame} {meth : Method} {c : Code} {G : GG} {SB : St} (C : Cx p s m args meth c G RX4 cX4_seesKind 3 (some .boolean)) {S : St} {H : Heap} {locs : List Loc} {ls : Array Slot}  {k : Int → St → Prop} (hw : Wd G ((injC SB) S) H) (hS : va_S (AG G) s.heap H locs) {xv1 : Int32} {x1 : Int} (xt1 : xv1.toInt = x1) (hl : lv_has ls 3 [(0, .ref (G.2.2 1032)), (1, .int xv1)])  (h : wX4_seesKind_0 S x1 k) : W p l e (rmF 2 48) s m args below meth c H locs 0 0 (MQ below (QcI G (injC SB) k) args s 0 0 (AG G)) (F0 m 0 ls []) := by
  refine lv_aload_n C.1.1 C.1.2.1 dX4_seesKind_0 rfl (lv_at hl 0 rfl) ?_
  refine y_getI C fl_X4_60 hw (ock_4 SB) rfl dX4_seesKind_1 (fun v1 t1 => ?_)
  refine y_sipush C dX4_seesKind_4 ⟨by decide, by decide⟩ (fun v2 t2 => ?_)
  refine y_icmp_eq C t1 t2 dX4_seesKind_7 (tgt := 23) (by decide) (fun c3 => ?_) (fun c3 => ?_)
  · have h := h.1 c3
    exact uX4_seesKind_23 C hw hS xt1 (lv_sub hl [0, 1] rfl)  h
  · have h := h.2 c3
    refine lv_aload_n C.1.1 C.1.2.1 dX4_seesKind_10 rfl (lv_at hl 0 rfl) ?_
    refine y_getI C fl_X4_60 hw (ock_4 SB) rfl dX4_seesKind_11 (fun v4 t4 => ?_)
    refine y_iconst C dX4_seesKind_14 ⟨by decide, by decide⟩ (fun v5 t5 => ?_)
    refine y_icmp_eq C t4 t5 dX4_seesKind_15 (tgt := 23) (by decide) (fun c6 => ?_) (fun c6 => ?_)
    · have h := h.1 c6
      exact uX4_seesKind_23 C hw hS xt1 (lv_sub hl [0, 1] rfl)  h
    · have h := h.2 c6
      refine lv_aload_n C.1.1 C.1.2.1 dX4_seesKind_18 rfl (lv_at hl 0 rfl) ?_
      refine y_cVI C (As := []) (rest := []) ml_X4_119 (kX4_misfit l G SB S  h) (ock_4 SB) (T := TX4) (N := 15) rfl (by decide) ⟨(Nat.le_of_ble_eq_true rfl), (Nat.le_of_ble_eq_true rfl)⟩ hl.1 rfl rfl (Nat.le_of_ble_eq_true rfl) hw hS dX4_seesKind_19 (fun v7 x_7 S_7 H locs t7 h hw hS => ?_)
      obtain ⟨z, h⟩ := h
      exact y_zret C hw hS t7 z h dX4_seesKind_22
theorem kX4_seesKind (l : Launch) (G : GG) (SB S : St) {xv1 : Int32} {x1 : Int} (xt1 : xv1.toInt = x1) {k : Int → St → Prop} (h : wX4_seesKind S x1 k) : CnI l yX4_seesKind cX4_seesKind 3 (some .boolean) 2 48 G (injC SB) [.ref (G.2.2 1032), .int xv1] S k :=
  cn_body (by decide +kernel) (Nat.le_of_ble_eq_true rfl) (fun p e s m args below meth c ls C hw hl => uX4_seesKind_0 C hw va_S.rf xt1 (lv_sub hl [0, 1] rfl) h)
set_option maxHeartbeats 4000000 in
set_option maxRecDepth 10000 in
theorem uX4_readResult_47 {p : Program} {l : Launch} {e : Env} {s : State} {m : MethodId} {args : Array Value} {below : List Frame} {meth : Method} {c : Code} {G : GG} {SB : St} (C : Cx p s m args meth c G RX4 cX4_readResult 1 (some .boolean)) {S : St} {H : Heap} {locs : List Loc} {ls : Array Slot}  {k : Int → St → Prop} (hw : Wd G ((injC SB) S) H) (hS : va_S (AG G) s.heap H locs)  (hl : lv_has ls 1 [(0, .ref (G.2.2 1032))])  (h : wX4_readResult_47 S k) : W p l e (rmF 3 70) s m args below meth c H locs 0 0 (MQ below (QcI G (injC SB) k) args s 0 0 (AG G)) (F0 m 47 ls []) := by
  refine lv_aload_n C.1.1 C.1.2.1 dX4_readResult_47 rfl (lv_at hl 0 rfl) ?_
  refine y_cVI C (As := []) (rest := []) ml_X4_267 (kX4_passFirst l G SB S  h) (ock_4 SB) (T := TX4) (N := 15) rfl (by decide) ⟨(Nat.le_of_ble_eq_true rfl), (Nat.le_of_ble_eq_true rfl)⟩ hl.1 rfl rfl (Nat.le_of_ble_eq_true rfl) hw hS dX4_readResult_48 (fun v1 x_1 S_1 H locs t1 h hw hS => ?_)
  obtain ⟨z, h⟩ := h
  exact y_zret C hw hS t1 z h dX4_readResult_51
set_option maxHeartbeats 4000000 in
set_option maxRecDepth 10000 in
theorem uX4_readResult_20 {p : Program} {l : Launch} {e : Env} {s : State} {m : MethodId} {args : Array Value} {below : List Frame} {meth : Method} {c : Code} {G : GG} {SB : St} (C : Cx p s m args meth c G RX4 cX4_readResult 1 (some .boolean)) {S : St} {H : Heap} {locs : List Loc} {ls : Array Slot}  {k : Int → St → Prop} (hw : Wd G ((injC SB) S) H) (hS : va_S (AG G) s.heap H locs)  (hl : lv_has ls 1 [(0, .ref (G.2.2 1032))])  (h : wX4_readResult_20 S k) : W p l e (rmF 3 70) s m args below meth c H locs 0 0 (MQ below (QcI G (injC SB) k) args s 0 0 (AG G)) (F0 m 20 ls []) := by
  refine lv_aload_n C.1.1 C.1.2.1 dX4_readResult_20 rfl (lv_at hl 0 rfl) ?_
  obtain ⟨x_1, e1⟩ : ∃ z : Int, z = S 1032 14 := ⟨_, rfl⟩
  obtain ⟨o1, h⟩ := h x_1 e1
  refine y_getO C fl_X4_46 hw (ock_4 SB) rfl e1 o1 dX4_readResult_21 ?_
  refine y_cVIp C (As := []) (rest := []) ml_X4_273 (kX3_isOwn l G SB S o1 h) (oc_of SB o1) (T := TX3) (N := 8) rfl (by decide) ⟨(Nat.le_of_ble_eq_true rfl), (Nat.le_of_ble_eq_true rfl)⟩ hl.1 rfl rfl (Nat.le_of_ble_eq_true rfl) hw hS dX4_readResult_24 (fun v2 x_2 H locs t2 h hw hS => ?_)
  refine y_if_eq C t2 dX4_readResult_27 (tgt := 47) (by decide) (fun c3 => ?_) (fun c3 => ?_)
  · have h := h.1 c3
    exact uX4_readResult_47 C hw hS  (lv_sub hl [0] rfl)  h
  · have h := h.2 c3
    refine lv_aload_n C.1.1 C.1.2.1 dX4_readResult_30 rfl (lv_at hl 0 rfl) ?_
    obtain ⟨x_4, e4⟩ : ∃ z : Int, z = S 1032 14 := ⟨_, rfl⟩
    obtain ⟨o4, h⟩ := h x_4 e4
    refine y_getO C fl_X4_46 hw (ock_4 SB) rfl e4 o4 dX4_readResult_31 ?_
    refine y_getI C fl_X4_251 hw (oc_of SB o4) rfl dX4_readResult_34 (fun v5 t5 => ?_)
    refine y_iconst C dX4_readResult_37 ⟨by decide, by decide⟩ (fun v6 t6 => ?_)
    refine y_icmp_ne C t5 t6 dX4_readResult_38 (tgt := 47) (by decide) (fun c7 => ?_) (fun c7 => ?_)
    · have h := h.1 c7
      exact uX4_readResult_47 C hw hS  (lv_sub hl [0] rfl)  h
    · have h := h.2 c7
      refine lv_aload_n C.1.1 C.1.2.1 dX4_readResult_41 rfl (lv_at hl 0 rfl) ?_
      refine y_iconst C dX4_readResult_42 ⟨by decide, by decide⟩ (fun v8 t8 => ?_)
      refine y_cVI C (As := [.int v8]) (rest := []) ml_X4_126 (kX4_fail l G SB S t8 h) (ock_4 SB) (T := TX4) (N := 15) rfl (by decide) ⟨(Nat.le_of_ble_eq_true rfl), (Nat.le_of_ble_eq_true rfl)⟩ hl.1 rfl rfl (Nat.le_of_ble_eq_true rfl) hw hS dX4_readResult_43 (fun v9 x_9 S_9 H locs t9 h hw hS => ?_)
      obtain ⟨z, h⟩ := h
      exact y_zret C hw hS t9 z h dX4_readResult_46
set_option maxHeartbeats 4000000 in
set_option maxRecDepth 10000 in
theorem uX4_readResult_0 {p : Program} {l : Launch} {e : Env} {s : State} {m : MethodId} {args : Array Value} {below : List Frame} {meth : Method} {c : Code} {G : GG} {SB : St} (C : Cx p s m args meth c G RX4 cX4_readResult 1 (some .boolean)) {S : St} {H : Heap} {locs : List Loc} {ls : Array Slot}  {k : Int → St → Prop} (hw : Wd G ((injC SB) S) H) (hS : va_S (AG G) s.heap H locs)  (hl : lv_has ls 1 [(0, .ref (G.2.2 1032))])  (h : wX4_readResult_0 S k) : W p l e (rmF 3 70) s m args below meth c H locs 0 0 (MQ below (QcI G (injC SB) k) args s 0 0 (AG G)) (F0 m 0 ls []) := by
  refine lv_aload_n C.1.1 C.1.2.1 dX4_readResult_0 rfl (lv_at hl 0 rfl) ?_
  refine y_getI C fl_X4_60 hw (ock_4 SB) rfl dX4_readResult_1 (fun v1 t1 => ?_)
  refine y_sipush C dX4_readResult_4 ⟨by decide, by decide⟩ (fun v2 t2 => ?_)
  refine y_icmp_eq C t1 t2 dX4_readResult_7 (tgt := 20) (by decide) (fun c3 => ?_) (fun c3 => ?_)
  · have h := h.1 c3
    exact uX4_readResult_20 C hw hS  (lv_sub hl [0] rfl)  h
  · have h := h.2 c3
    refine lv_aload_n C.1.1 C.1.2.1 dX4_readResult_10 rfl (lv_at hl 0 rfl) ?_
    refine y_iconst C dX4_readResult_11 ⟨by decide, by decide⟩ (fun v4 t4 => ?_)
    refine y_cVI C (As := [.int v4]) (rest := []) ml_X4_276 (kX4_seesKind l G SB S t4 h) (ock_4 SB) (T := TX4) (N := 15) rfl (by decide) ⟨(Nat.le_of_ble_eq_true rfl), (Nat.le_of_ble_eq_true rfl)⟩ hl.1 rfl rfl (Nat.le_of_ble_eq_true rfl) hw hS dX4_readResult_12 (fun v5 x_5 S_5 H locs t5 h hw hS => ?_)
    refine y_if_ne C t5 dX4_readResult_15 (tgt := 20) (by decide) (fun c6 => ?_) (fun c6 => ?_)
    · have h := h.1 c6
      exact uX4_readResult_20 C hw hS  (lv_sub hl [0] rfl)  h
    · have h := h.2 c6
      refine y_iconst C dX4_readResult_18 ⟨by decide, by decide⟩ (fun v7 t7 => ?_)
      exact y_zret C hw hS t7 (Or.inl rfl) h dX4_readResult_19
theorem kX4_readResult (l : Launch) (G : GG) (SB S : St)  {k : Int → St → Prop} (h : wX4_readResult S k) : CnI l yX4_readResult cX4_readResult 1 (some .boolean) 3 70 G (injC SB) [.ref (G.2.2 1032)] S k :=
  cn_body (by decide +kernel) (Nat.le_of_ble_eq_true rfl) (fun p e s m args below meth c ls C hw hl => uX4_readResult_0 C hw va_S.rf  (lv_sub hl [0] rfl) h)
set_option maxHeartbeats 4000000 in
set_option maxRecDepth 10000 in
theorem uX4_readMemberName_0 {p : Program} {l : Launch} {e : Env} {s : State} {m : MethodId} {args : Array Value} {below : List Frame} {meth : Method} {c : Code} {G : GG} {SB : St} (C : Cx p s m args meth c G RX4 cX4_readMemberName 1 (some .boolean)) {S : St} {H : Heap} {locs : List Loc} {ls : Array Slot}  {k : Int → St → Prop} (hw : Wd G ((injC SB) S) H) (hS : va_S (AG G) s.heap H locs)  (hl : lv_has ls 1 [(0, .ref (G.2.2 1032))])  (h : wX4_readMemberName_0 S k) : W p l e (rmF 2 41) s m args below meth c H locs 0 0 (MQ below (QcI G (injC SB) k) args s 0 0 (AG G)) (F0 m 0 ls []) := by
  refine lv_aload_n C.1.1 C.1.2.1 dX4_readMemberName_0 rfl (lv_at hl 0 rfl) ?_
  refine y_getI C fl_X4_60 hw (ock_4 SB) rfl dX4_readMemberName_1 (fun v1 t1 => ?_)
  refine y_iconst C dX4_readMemberName_4 ⟨by decide, by decide⟩ (fun v2 t2 => ?_)
  refine y_icmp_eq C t1 t2 dX4_readMemberName_5 (tgt := 13) (by decide) (fun c3 => ?_) (fun c3 => ?_)
  · have h := h.1 c3
    refine lv_aload_n C.1.1 C.1.2.1 dX4_readMemberName_13 rfl (lv_at hl 0 rfl) ?_
    obtain ⟨x_4, e4⟩ : ∃ z : Int, z = S 1032 14 := ⟨_, rfl⟩
    obtain ⟨o4, h⟩ := h x_4 e4
    refine y_getO C fl_X4_46 hw (ock_4 SB) rfl e4 o4 dX4_readMemberName_14 ?_
    refine lv_aload_n C.1.1 C.1.2.1 dX4_readMemberName_17 rfl (lv_at hl 0 rfl) ?_
    refine y_getJ C fl_X4_94 hw (ock_4 SB) rfl dX4_readMemberName_18 (fun v5 t5 => ?_)
    obtain ⟨S_6, e6⟩ : ∃ z : St, z = up S x_4 0 (S 1032 6) := ⟨_, rfl⟩
    have h := h S_6 e6
    refine y_putJ C fl_X4_282 fp_3_0 hw hS (oc_of SB o4) rfl t5 dX4_readMemberName_21 (fun H locs hw hS => ?_)
    have hw : Wd G ((injC SB) S_6) H := by rw [e6]; exact hw
    refine lv_aload_n C.1.1 C.1.2.1 dX4_readMemberName_24 rfl (lv_at hl 0 rfl) ?_
    refine y_cVV C (As := []) (rest := []) ml_X4_130 (kX4_advance l G SB S_6  h) (ock_4 SB) (T := TX4) (N := 15) rfl (by decide) ⟨(Nat.le_of_ble_eq_true rfl), (Nat.le_of_ble_eq_true rfl)⟩ hl.1 rfl rfl (Nat.le_of_ble_eq_true rfl) hw hS dX4_readMemberName_25 (fun S_7 H locs h hw hS => ?_)
    refine y_iconst C dX4_readMemberName_28 ⟨by decide, by decide⟩ (fun v8 t8 => ?_)
    exact y_zret C hw hS t8 (Or.inr rfl) h dX4_readMemberName_29
  · have h := h.2 c3
    refine lv_aload_n C.1.1 C.1.2.1 dX4_readMemberName_8 rfl (lv_at hl 0 rfl) ?_
    refine y_cVI C (As := []) (rest := []) ml_X4_119 (kX4_misfit l G SB S  h) (ock_4 SB) (T := TX4) (N := 15) rfl (by decide) ⟨(Nat.le_of_ble_eq_true rfl), (Nat.le_of_ble_eq_true rfl)⟩ hl.1 rfl rfl (Nat.le_of_ble_eq_true rfl) hw hS dX4_readMemberName_9 (fun v9 x_9 S_9 H locs t9 h hw hS => ?_)
    obtain ⟨z, h⟩ := h
    exact y_zret C hw hS t9 z h dX4_readMemberName_12
theorem kX4_readMemberName (l : Launch) (G : GG) (SB S : St)  {k : Int → St → Prop} (h : wX4_readMemberName S k) : CnI l yX4_readMemberName cX4_readMemberName 1 (some .boolean) 2 41 G (injC SB) [.ref (G.2.2 1032)] S k :=
  cn_body (by decide +kernel) (Nat.le_of_ble_eq_true rfl) (fun p e s m args below meth c ls C hw hl => uX4_readMemberName_0 C hw va_S.rf  (lv_sub hl [0] rfl) h)
set_option maxHeartbeats 4000000 in
set_option maxRecDepth 10000 in
theorem uX4_readKinds_80 {p : Program} {l : Launch} {e : Env} {s : State} {m : MethodId} {args : Array Value} {below : List Frame} {meth : Method} {c : Code} {G : GG} {SB : St} (C : Cx p s m args meth c G RX4 cX4_readKinds 3 (some .boolean)) {S : St} {H : Heap} {locs : List Loc} {ls : Array Slot} {P28 : Int → Int → St → Prop} {k : Int → St → Prop} (hw : Wd G ((injC SB) S) H) (hS : va_S (AG G) s.heap H locs) {xv2 : Int32} {x2 : Int} (xt2 : xv2.toInt = x2) {sv0 : Int32} {s0 : Int} (st0 : sv0.toInt = s0) (hl : lv_has ls 3 [(0, .ref (G.2.2 1032)), (2, .int xv2)]) (hP28 : ∀ {H : Heap} {locs : List Loc} {ls : Array Slot} {Sy : St} {yv1 : Int32} {y1 : Int} {yv2 : Int32} {y2 : Int}, yv1.toInt = y1 → yv2.toInt = y2 → Wd G ((injC SB) Sy) H → va_S (AG G) s.heap H locs → lv_has ls 3 [(0, .ref (G.2.2 1032)), (1, .int yv1), (2, .int yv2)] → P28 y1 y2 Sy → W p l e (rmF 3 70) s m args below meth c H locs 0 0 (MQ below (QcI G (injC SB) k) args s 0 0 (AG G)) (F0 m 28 ls [])) (h : wX4_readKinds_80 S x2 s0 P28 k) : W p l e (rmF 3 70) s m args below meth c H locs 0 0 (MQ below (QcI G (injC SB) k) args s 0 0 (AG G)) (F0 m 80 ls [.int sv0]) := by
  refine lv_istore_n (lv' := [(1, .int sv0), (0, .ref (G.2.2 1032)), (2, .int xv2)]) C.1.1 C.1.2.1 dX4_readKinds_80 rfl hl (by decide) rfl (fun ls hl => ?_)
  refine lv_iload_n C.1.1 C.1.2.1 dX4_readKinds_81 rfl (lv_at hl 0 rfl) ?_
  refine y_if_eq C st0 dX4_readKinds_82 (tgt := 89) (by decide) (fun c1 => ?_) (fun c1 => ?_)
  · have h := h.1 c1
    obtain ⟨x_2, e2⟩ : ∃ z : Int, z = w32 (x2 + 1) := ⟨_, rfl⟩
    have h := h x_2 e2
    obtain ⟨v2, t2, g2⟩ : ∃ z : Int32, z.toInt = x_2 ∧ xv2 + Int32.ofInt 1 = z := ⟨_, (ti_inc xt2 ⟨by decide, by decide⟩).trans e2.symm, rfl⟩
    refine lv_iinc (v := v2) (lv' := [(2, .int v2), (1, .int sv0), (0, .ref (G.2.2 1032))]) C.1.1 C.1.2.1 dX4_readKinds_89 hl (k := 2) rfl g2 (by decide) rfl (fun ls hl => ?_)
    refine lv_goto (tgt := 28) C.1.1 C.1.2.1 dX4_readKinds_92 (by decide) ?_
    exact hP28 st0 t2 hw hS (lv_sub hl [2, 1, 0] rfl) h
  · have h := h.2 c1
    refine lv_aload_n C.1.1 C.1.2.1 dX4_readKinds_85 rfl (lv_at hl 1 rfl) ?_
    refine y_cVV C (As := []) (rest := []) ml_X4_130 (kX4_advance l G SB S  h) (ock_4 SB) (T := TX4) (N := 15) rfl (by decide) ⟨(Nat.le_of_ble_eq_true rfl), (Nat.le_of_ble_eq_true rfl)⟩ hl.1 rfl rfl (Nat.le_of_ble_eq_true rfl) hw hS dX4_readKinds_86 (fun S_3 H locs h hw hS => ?_)
    obtain ⟨x_4, e4⟩ : ∃ z : Int, z = w32 (x2 + 1) := ⟨_, rfl⟩
    have h := h x_4 e4
    obtain ⟨v4, t4, g4⟩ : ∃ z : Int32, z.toInt = x_4 ∧ xv2 + Int32.ofInt 1 = z := ⟨_, (ti_inc xt2 ⟨by decide, by decide⟩).trans e4.symm, rfl⟩
    refine lv_iinc (v := v4) (lv' := [(2, .int v4), (1, .int sv0), (0, .ref (G.2.2 1032))]) C.1.1 C.1.2.1 dX4_readKinds_89 hl (k := 2) rfl g4 (by decide) rfl (fun ls hl => ?_)
    refine lv_goto (tgt := 28) C.1.1 C.1.2.1 dX4_readKinds_92 (by decide) ?_
    exact hP28 st0 t4 hw hS (lv_sub hl [2, 1, 0] rfl) h
set_option maxHeartbeats 4000000 in
set_option maxRecDepth 10000 in
theorem uX4_readKinds_79 {p : Program} {l : Launch} {e : Env} {s : State} {m : MethodId} {args : Array Value} {below : List Frame} {meth : Method} {c : Code} {G : GG} {SB : St} (C : Cx p s m args meth c G RX4 cX4_readKinds 3 (some .boolean)) {S : St} {H : Heap} {locs : List Loc} {ls : Array Slot} {P28 : Int → Int → St → Prop} {k : Int → St → Prop} (hw : Wd G ((injC SB) S) H) (hS : va_S (AG G) s.heap H locs) {xv2 : Int32} {x2 : Int} (xt2 : xv2.toInt = x2) (hl : lv_has ls 3 [(0, .ref (G.2.2 1032)), (2, .int xv2)]) (hP28 : ∀ {H : Heap} {locs : List Loc} {ls : Array Slot} {Sy : St} {yv1 : Int32} {y1 : Int} {yv2 : Int32} {y2 : Int}, yv1.toInt = y1 → yv2.toInt = y2 → Wd G ((injC SB) Sy) H → va_S (AG G) s.heap H locs → lv_has ls 3 [(0, .ref (G.2.2 1032)), (1, .int yv1), (2, .int yv2)] → P28 y1 y2 Sy → W p l e (rmF 3 70) s m args below meth c H locs 0 0 (MQ below (QcI G (injC SB) k) args s 0 0 (AG G)) (F0 m 28 ls [])) (h : wX4_readKinds_79 S x2 P28 k) : W p l e (rmF 3 70) s m args below meth c H locs 0 0 (MQ below (QcI G (injC SB) k) args s 0 0 (AG G)) (F0 m 79 ls []) := by
  refine y_iconst C dX4_readKinds_79 ⟨by decide, by decide⟩ (fun v1 t1 => ?_)
  exact uX4_readKinds_80 C hw hS xt2 t1 (lv_sub hl [0, 1] rfl) hP28 h
set_option maxHeartbeats 4000000 in
set_option maxRecDepth 10000 in
theorem uX4_readKinds_95 {p : Program} {l : Launch} {e : Env} {s : State} {m : MethodId} {args : Array Value} {below : List Frame} {meth : Method} {c : Code} {G : GG} {SB : St} (C : Cx p s m args meth c G RX4 cX4_readKinds 3 (some .boolean)) {S : St} {H : Heap} {locs : List Loc} {ls : Array Slot}  {k : Int → St → Prop} (hw : Wd G ((injC SB) S) H) (hS : va_S (AG G) s.heap H locs)  (hl : lv_has ls 3 [(0, .ref (G.2.2 1032))])  (h : wX4_readKinds_95 S k) : W p l e (rmF 3 70) s m args below meth c H locs 0 0 (MQ below (QcI G (injC SB) k) args s 0 0 (AG G)) (F0 m 95 ls []) := by
  refine lv_aload_n C.1.1 C.1.2.1 dX4_readKinds_95 rfl (lv_at hl 0 rfl) ?_
  refine y_bipush C dX4_readKinds_96 ⟨by decide, by decide⟩ (fun v1 t1 => ?_)
  refine y_cVI C (As := [.int v1]) (rest := []) ml_X4_143 (kX4_take l G SB S t1 h) (ock_4 SB) (T := TX4) (N := 15) rfl (by decide) ⟨(Nat.le_of_ble_eq_true rfl), (Nat.le_of_ble_eq_true rfl)⟩ hl.1 rfl rfl (Nat.le_of_ble_eq_true rfl) hw hS dX4_readKinds_98 (fun v2 x_2 S_2 H locs t2 h hw hS => ?_)
  obtain ⟨z, h⟩ := h
  exact y_zret C hw hS t2 z h dX4_readKinds_101
set_option maxHeartbeats 4000000 in
set_option maxRecDepth 10000 in
theorem uX4_readKinds_28_b {p : Program} {l : Launch} {e : Env} {s : State} {m : MethodId} {args : Array Value} {below : List Frame} {meth : Method} {c : Code} {G : GG} {SB : St} (C : Cx p s m args meth c G RX4 cX4_readKinds 3 (some .boolean)) {S : St} {H : Heap} {locs : List Loc} {ls : Array Slot}  {P28 : Int → Int → St → Prop} {k : Int → St → Prop} (hw : Wd G ((injC SB) S) H) (hS : va_S (AG G) s.heap H locs) {xv1 : Int32} {x1 : Int} (xt1 : xv1.toInt = x1) {xv2 : Int32} {x2 : Int} (xt2 : xv2.toInt = x2) (hl : lv_has ls 3 [(0, .ref (G.2.2 1032)), (1, .int xv1), (2, .int xv2)])  (hP28 : ∀ {H : Heap} {locs : List Loc} {ls : Array Slot} {Sy : St} {yv1 : Int32} {y1 : Int} {yv2 : Int32} {y2 : Int}, yv1.toInt = y1 → yv2.toInt = y2 → Wd G ((injC SB) Sy) H → va_S (AG G) s.heap H locs → lv_has ls 3 [(0, .ref (G.2.2 1032)), (1, .int yv1), (2, .int yv2)] → P28 y1 y2 Sy → W p l e (rmF 3 70) s m args below meth c H locs 0 0 (MQ below (QcI G (injC SB) k) args s 0 0 (AG G)) (F0 m 28 ls [])) (h : wX4_readKinds_28_b S x1 x2 P28 k) : W p l e (rmF 3 70) s m args below meth c H locs 0 0 (MQ below (QcI G (injC SB) k) args s 0 0 (AG G)) (F0 m 28 ls []) := by
  refine lv_iload_n C.1.1 C.1.2.1 dX4_readKinds_28 rfl (lv_at hl 2 rfl) ?_
  refine y_iconst C dX4_readKinds_29 ⟨by decide, by decide⟩ (fun v1 t1 => ?_)
  refine y_icmp_ge C xt2 t1 dX4_readKinds_30 (tgt := 95) (by decide) (fun c2 => ?_) (fun c2 => ?_)
  · have h := h.1 c2
    exact uX4_readKinds_95 C hw hS  (lv_sub hl [0] rfl)  h
  · have h := h.2 c2
    refine lv_iload_n C.1.1 C.1.2.1 dX4_readKinds_33 rfl (lv_at hl 1 rfl) ?_
    refine y_if_eq C xt1 dX4_readKinds_34 (tgt := 95) (by decide) (fun c3 => ?_) (fun c3 => ?_)
    · have h := h.1 c3
      exact uX4_readKinds_95 C hw hS  (lv_sub hl [0] rfl)  h
    · have h := h.2 c3
      refine lv_aload_n C.1.1 C.1.2.1 dX4_readKinds_37 rfl (lv_at hl 0 rfl) ?_
      refine lv_iload_n C.1.1 C.1.2.1 dX4_readKinds_38 rfl (lv_at hl 2 rfl) ?_
      refine y_cVI C (As := [.int xv2]) (rest := []) ml_X4_276 (kX4_seesKind l G SB S xt2 h) (ock_4 SB) (T := TX4) (N := 15) rfl (by decide) ⟨(Nat.le_of_ble_eq_true rfl), (Nat.le_of_ble_eq_true rfl)⟩ hl.1 rfl rfl (Nat.le_of_ble_eq_true rfl) hw hS dX4_readKinds_39 (fun v4 x_4 S_4 H locs t4 h hw hS => ?_)
      refine y_if_ne C t4 dX4_readKinds_42 (tgt := 47) (by decide) (fun c5 => ?_) (fun c5 => ?_)
      · have h := h.1 c5
        refine lv_aload_n C.1.1 C.1.2.1 dX4_readKinds_47 rfl (lv_at hl 0 rfl) ?_
        obtain ⟨x_6, e6⟩ : ∃ z : Int, z = S_4 1032 14 := ⟨_, rfl⟩
        obtain ⟨o6, h⟩ := h x_6 e6
        refine y_getO C fl_X4_46 hw (ock_4 SB) rfl e6 o6 dX4_readKinds_48 ?_
        refine lv_iload_n C.1.1 C.1.2.1 dX4_readKinds_51 rfl (lv_at hl 2 rfl) ?_
        refine y_iconst C dX4_readKinds_52 ⟨by decide, by decide⟩ (fun v7 t7 => ?_)
        refine y_iadd C xt2 t7 dX4_readKinds_53 (fun v8 t8 => ?_)
        obtain ⟨S_9, e9⟩ : ∃ z : St, z = up S_4 x_6 4 (w32 (x2 + 1)) := ⟨_, rfl⟩
        have h := h S_9 e9
        refine y_putI C fl_X4_283 fp_3_4 hw hS (oc_of SB o6) rfl t8 dX4_readKinds_54 (fun H locs hw hS => ?_)
        have hw : Wd G ((injC SB) S_9) H := by rw [e9]; exact hw
        refine lv_aload_n C.1.1 C.1.2.1 dX4_readKinds_57 rfl (lv_at hl 0 rfl) ?_
        refine y_cVV C (As := []) (rest := []) ml_X4_130 (kX4_advance l G SB S_9  h) (ock_4 SB) (T := TX4) (N := 15) rfl (by decide) ⟨(Nat.le_of_ble_eq_true rfl), (Nat.le_of_ble_eq_true rfl)⟩ hl.1 rfl rfl (Nat.le_of_ble_eq_true rfl) hw hS dX4_readKinds_58 (fun S_10 H locs h hw hS => ?_)
        refine lv_iload_n C.1.1 C.1.2.1 dX4_readKinds_61 rfl (lv_at hl 2 rfl) ?_
        refine y_iconst C dX4_readKinds_62 ⟨by decide, by decide⟩ (fun v11 t11 => ?_)
        refine y_icmp_ge C xt2 t11 dX4_readKinds_63 (tgt := 79) (by decide) (fun c12 => ?_) (fun c12 => ?_)
        · have h := h.1 c12
          exact uX4_readKinds_79 C hw hS xt2 (lv_sub hl [0, 2] rfl) hP28 h
        · have h := h.2 c12
          refine lv_aload_n C.1.1 C.1.2.1 dX4_readKinds_66 rfl (lv_at hl 0 rfl) ?_
          refine y_getI C fl_X4_60 hw (ock_4 SB) rfl dX4_readKinds_67 (fun v13 t13 => ?_)
          refine y_bipush C dX4_readKinds_70 ⟨by decide, by decide⟩ (fun v14 t14 => ?_)
          refine y_icmp_ne C t13 t14 dX4_readKinds_72 (tgt := 79) (by decide) (fun c15 => ?_) (fun c15 => ?_)
          · have h := h.1 c15
            exact uX4_readKinds_79 C hw hS xt2 (lv_sub hl [0, 2] rfl) hP28 h
          · have h := h.2 c15
            refine y_iconst C dX4_readKinds_75 ⟨by decide, by decide⟩ (fun v16 t16 => ?_)
            refine lv_goto (tgt := 80) C.1.1 C.1.2.1 dX4_readKinds_76 (by decide) ?_
            exact uX4_readKinds_80 C hw hS xt2 t16 (lv_sub hl [0, 2] rfl) hP28 h
      · have h := h.2 c5
        refine y_iconst C dX4_readKinds_45 ⟨by decide, by decide⟩ (fun v17 t17 => ?_)
        exact y_zret C hw hS t17 (Or.inl rfl) h dX4_readKinds_46
set_option maxHeartbeats 4000000 in
set_option maxRecDepth 10000 in
theorem uX4_readKinds_28 {p : Program} {l : Launch} {e : Env} {s : State} {m : MethodId} {args : Array Value} {below : List Frame} {meth : Method} {c : Code} {G : GG} {SB : St} (C : Cx p s m args meth c G RX4 cX4_readKinds 3 (some .boolean)) {S : St} {H : Heap} {locs : List Loc} {ls : Array Slot}  {k : Int → St → Prop} (hw : Wd G ((injC SB) S) H) (hS : va_S (AG G) s.heap H locs) {xv1 : Int32} {x1 : Int} (xt1 : xv1.toInt = x1) {xv2 : Int32} {x2 : Int} (xt2 : xv2.toInt = x2) (hl : lv_has ls 3 [(0, .ref (G.2.2 1032)), (1, .int xv1), (2, .int xv2)])  (h : wX4_readKinds_28 S x1 x2 k) : W p l e (rmF 3 70) s m args below meth c H locs 0 0 (MQ below (QcI G (injC SB) k) args s 0 0 (AG G)) (F0 m 28 ls []) := by
  have key : ∀ (n : Nat) {H : Heap} {locs : List Loc} {ls : Array Slot} {S : St} {xv1 : Int32} {x1 : Int} {xv2 : Int32} {x2 : Int}, xv1.toInt = x1 → xv2.toInt = x2 → Wd G ((injC SB) S) H → va_S (AG G) s.heap H locs → lv_has ls 3 [(0, .ref (G.2.2 1032)), (1, .int xv1), (2, .int xv2)] → itP (fun (P : Int × Int × St → Prop) (a : Int × Int × St) => wX4_readKinds_28_b a.2.2 a.1 a.2.1 (fun b0 b1 b2 => P (b0, b1, b2)) k) n (x1, x2, S) → W p l e (rmF 3 70) s m args below meth c H locs 0 0 (MQ below (QcI G (injC SB) k) args s 0 0 (AG G)) (F0 m 28 ls []) := by
    intro n
    induction n with
    | zero => intro H locs ls S xv1 x1 xv2 x2 xt1 xt2 hw hS hl h; exact h.elim
    | succ n ih =>
      intro H locs ls S xv1 x1 xv2 x2 xt1 xt2 hw hS hl h
      exact uX4_readKinds_28_b C hw hS xt1 xt2 hl  (P28 := fun b0 b1 b2 => itP _ n (b0, b1, b2)) (fun q0 q1 hw hS hl h => ih q0 q1 hw hS hl h) h
  obtain ⟨n, hn⟩ := h
  exact key n xt1 xt2 hw hS hl hn
set_option maxHeartbeats 4000000 in
set_option maxRecDepth 10000 in
theorem uX4_readKinds_0 {p : Program} {l : Launch} {e : Env} {s : State} {m : MethodId} {args : Array Value} {below : List Frame} {meth : Method} {c : Code} {G : GG} {SB : St} (C : Cx p s m args meth c G RX4 cX4_readKinds 3 (some .boolean)) {S : St} {H : Heap} {locs : List Loc} {ls : Array Slot}  {k : Int → St → Prop} (hw : Wd G ((injC SB) S) H) (hS : va_S (AG G) s.heap H locs)  (hl : lv_has ls 3 [(0, .ref (G.2.2 1032))])  (h : wX4_readKinds_0 S k) : W p l e (rmF 3 70) s m args below meth c H locs 0 0 (MQ below (QcI G (injC SB) k) args s 0 0 (AG G)) (F0 m 0 ls []) := by
  refine lv_aload_n C.1.1 C.1.2.1 dX4_readKinds_0 rfl (lv_at hl 0 rfl) ?_
  refine y_bipush C dX4_readKinds_1 ⟨by decide, by decide⟩ (fun v1 t1 => ?_)
  refine y_cVI C (As := [.int v1]) (rest := []) ml_X4_143 (kX4_take l G SB S t1 h) (ock_4 SB) (T := TX4) (N := 15) rfl (by decide) ⟨(Nat.le_of_ble_eq_true rfl), (Nat.le_of_ble_eq_true rfl)⟩ hl.1 rfl rfl (Nat.le_of_ble_eq_true rfl) hw hS dX4_readKinds_3 (fun v2 x_2 S_2 H locs t2 h hw hS => ?_)
  refine y_if_ne C t2 dX4_readKinds_6 (tgt := 11) (by decide) (fun c3 => ?_) (fun c3 => ?_)
  · have h := h.1 c3
    refine lv_aload_n C.1.1 C.1.2.1 dX4_readKinds_11 rfl (lv_at hl 0 rfl) ?_
    refine y_getI C fl_X4_60 hw (ock_4 SB) rfl dX4_readKinds_12 (fun v4 t4 => ?_)
    refine y_bipush C dX4_readKinds_15 ⟨by decide, by decide⟩ (fun v5 t5 => ?_)
    refine y_icmp_eq C t4 t5 dX4_readKinds_17 (tgt := 24) (by decide) (fun c6 => ?_) (fun c6 => ?_)
    · have h := h.1 c6
      refine y_iconst C dX4_readKinds_24 ⟨by decide, by decide⟩ (fun v7 t7 => ?_)
      refine lv_istore_n (lv' := [(1, .int v7), (0, .ref (G.2.2 1032))]) C.1.1 C.1.2.1 dX4_readKinds_25 rfl hl (by decide) rfl (fun ls hl => ?_)
      refine y_iconst C dX4_readKinds_26 ⟨by decide, by decide⟩ (fun v8 t8 => ?_)
      refine lv_istore_n (lv' := [(2, .int v8), (1, .int v7), (0, .ref (G.2.2 1032))]) C.1.1 C.1.2.1 dX4_readKinds_27 rfl hl (by decide) rfl (fun ls hl => ?_)
      exact uX4_readKinds_28 C hw hS t7 t8 (lv_sub hl [2, 1, 0] rfl)  h
    · have h := h.2 c6
      refine y_iconst C dX4_readKinds_20 ⟨by decide, by decide⟩ (fun v9 t9 => ?_)
      refine lv_goto (tgt := 25) C.1.1 C.1.2.1 dX4_readKinds_21 (by decide) ?_
      refine lv_istore_n (lv' := [(1, .int v9), (0, .ref (G.2.2 1032))]) C.1.1 C.1.2.1 dX4_readKinds_25 rfl hl (by decide) rfl (fun ls hl => ?_)
      refine y_iconst C dX4_readKinds_26 ⟨by decide, by decide⟩ (fun v10 t10 => ?_)
      refine lv_istore_n (lv' := [(2, .int v10), (1, .int v9), (0, .ref (G.2.2 1032))]) C.1.1 C.1.2.1 dX4_readKinds_27 rfl hl (by decide) rfl (fun ls hl => ?_)
      exact uX4_readKinds_28 C hw hS t9 t10 (lv_sub hl [2, 1, 0] rfl)  h
  · have h := h.2 c3
    refine y_iconst C dX4_readKinds_9 ⟨by decide, by decide⟩ (fun v11 t11 => ?_)
    exact y_zret C hw hS t11 (Or.inl rfl) h dX4_readKinds_10
theorem kX4_readKinds (l : Launch) (G : GG) (SB S : St)  {k : Int → St → Prop} (h : wX4_readKinds S k) : CnI l yX4_readKinds cX4_readKinds 3 (some .boolean) 3 70 G (injC SB) [.ref (G.2.2 1032)] S k :=
  cn_body (by decide +kernel) (Nat.le_of_ble_eq_true rfl) (fun p e s m args below meth c ls C hw hl => uX4_readKinds_0 C hw va_S.rf  (lv_sub hl [0] rfl) h)
set_option maxHeartbeats 4000000 in
set_option maxRecDepth 10000 in
theorem uX4_signatureOfRow_2_b {p : Program} {l : Launch} {e : Env} {s : State} {m : MethodId} {args : Array Value} {below : List Frame} {meth : Method} {c : Code} {G : GG} {SB : St} (C : Cx p s m args meth c G RX4 cX4_signatureOfRow 3 (some .int)) {S : St} {H : Heap} {locs : List Loc} {ls : Array Slot}  {P2 : Int → Prop} {k : Int → Prop} (hw : Wd G ((injC SB) S) H) (hS : va_S (AG G) s.heap H locs) {xv1 : Int32} {x1 : Int} (xt1 : xv1.toInt = x1) (hl : lv_has ls 3 [(0, .ref (G.2.2 1032)), (1, .int xv1)])  (hP2 : ∀ {H : Heap} {locs : List Loc} {ls : Array Slot} {yv1 : Int32} {y1 : Int}, yv1.toInt = y1 → Wd G ((injC SB) S) H → va_S (AG G) s.heap H locs → lv_has ls 3 [(0, .ref (G.2.2 1032)), (1, .int yv1)] → P2 y1 → W p l e (rmF 1 21) s m args below meth c H locs 0 0 (MQ below (QcI G (injC SB) (fun r u => k r ∧ u = S)) args s 0 0 (AG G)) (F0 m 2 ls [])) (h : wX4_signatureOfRow_2_b S x1 P2 k) : W p l e (rmF 1 21) s m args below meth c H locs 0 0 (MQ below (QcI G (injC SB) (fun r u => k r ∧ u = S)) args s 0 0 (AG G)) (F0 m 2 ls []) := by
  refine lv_iload_n C.1.1 C.1.2.1 dX4_signatureOfRow_2 rfl (lv_at hl 1 rfl) ?_
  refine lv_aload_n C.1.1 C.1.2.1 dX4_signatureOfRow_3 rfl (lv_at hl 0 rfl) ?_
  obtain ⟨x_1, e1⟩ : ∃ z : Int, z = S 1032 3 := ⟨_, rfl⟩
  obtain ⟨o1, h⟩ := h x_1 e1
  refine y_getO C fl_X4_19 hw (ock_4 SB) rfl e1 o1 dX4_signatureOfRow_4 ?_
  refine y_getI C fl_X4_154 hw (oc_of SB o1) rfl dX4_signatureOfRow_7 (fun v2 t2 => ?_)
  refine y_icmp_ge C xt1 t2 dX4_signatureOfRow_10 (tgt := 60) (by decide) (fun c3 => ?_) (fun c3 => ?_)
  · have h := h.1 c3
    refine lv_aload_n C.1.1 C.1.2.1 dX4_signatureOfRow_60 rfl (lv_at hl 0 rfl) ?_
    obtain ⟨x_4, e4⟩ : ∃ z : Int, z = S 1032 3 := ⟨_, rfl⟩
    obtain ⟨o4, h⟩ := h x_4 e4
    refine y_getO C fl_X4_19 hw (ock_4 SB) rfl e4 o4 dX4_signatureOfRow_61 ?_
    refine y_getI C fl_X4_154 hw (oc_of SB o4) rfl dX4_signatureOfRow_64 (fun v5 t5 => ?_)
    exact y_iret C hw hS t5 ⟨h, rfl⟩ dX4_signatureOfRow_67
  · have h := h.2 c3
    refine lv_aload_n C.1.1 C.1.2.1 dX4_signatureOfRow_13 rfl (lv_at hl 0 rfl) ?_
    obtain ⟨x_6, e6⟩ : ∃ z : Int, z = S 1032 3 := ⟨_, rfl⟩
    obtain ⟨o6, h⟩ := h x_6 e6
    refine y_getO C fl_X4_19 hw (ock_4 SB) rfl e6 o6 dX4_signatureOfRow_14 ?_
    refine y_getA C fl_X4_42 hw (oc_of SB o6) rfl (o := 2) rfl dX4_signatureOfRow_17 ?_
    refine lv_iload_n C.1.1 C.1.2.1 dX4_signatureOfRow_20 rfl (lv_at hl 1 rfl) ?_
    obtain ⟨b8, h⟩ := h
    obtain ⟨x_8, e8⟩ : ∃ z : Int, z = x_6 + 150 + 3 * x1 := ⟨_, rfl⟩
    have h := h x_8 e8
    have o8 : isO 3 x_8 := isO_mb o6 b8 e8
    refine y_mbO C hw o6 xt1 b8 e8 dX4_signatureOfRow_21 ?_
    refine lv_astore_n (lv' := [(2, .ref (G.2.2 (x_8).toNat)), (0, .ref (G.2.2 1032)), (1, .int xv1)]) C.1.1 C.1.2.1 dX4_signatureOfRow_22 rfl hl (by decide) rfl (fun ls hl => ?_)
    refine lv_aload_n C.1.1 C.1.2.1 dX4_signatureOfRow_23 rfl (lv_at hl 1 rfl) ?_
    obtain ⟨x_9, e9⟩ : ∃ z : Int, z = S 1032 14 := ⟨_, rfl⟩
    obtain ⟨o9, h⟩ := h x_9 e9
    refine y_getO C fl_X4_46 hw (ock_4 SB) rfl e9 o9 dX4_signatureOfRow_24 ?_
    refine lv_aload_n C.1.1 C.1.2.1 dX4_signatureOfRow_27 rfl (lv_at hl 0 rfl) ?_
    refine y_cVIp C (As := [.ref (G.2.2 (x_8).toNat)]) (rest := []) ml_X4_296 (kX3_hasErasedKindsOf l G SB S o9 o8 h) (oc_of SB o9) (T := TX3) (N := 8) rfl (by decide) ⟨(Nat.le_of_ble_eq_true rfl), (Nat.le_of_ble_eq_true rfl)⟩ hl.1 rfl rfl (Nat.le_of_ble_eq_true rfl) hw hS dX4_signatureOfRow_28 (fun v10 x_10 H locs t10 h hw hS => ?_)
    refine y_if_eq C t10 dX4_signatureOfRow_31 (tgt := 54) (by decide) (fun c11 => ?_) (fun c11 => ?_)
    · have h := h.1 c11
      obtain ⟨x_12, e12⟩ : ∃ z : Int, z = w32 (x1 + 1) := ⟨_, rfl⟩
      have h := h x_12 e12
      obtain ⟨v12, t12, g12⟩ : ∃ z : Int32, z.toInt = x_12 ∧ xv1 + Int32.ofInt 1 = z := ⟨_, (ti_inc xt1 ⟨by decide, by decide⟩).trans e12.symm, rfl⟩
      refine lv_iinc (v := v12) (lv' := [(1, .int v12), (2, .ref (G.2.2 (x_8).toNat)), (0, .ref (G.2.2 1032))]) C.1.1 C.1.2.1 dX4_signatureOfRow_54 hl (k := 2) rfl g12 (by decide) rfl (fun ls hl => ?_)
      refine lv_goto (tgt := 2) C.1.1 C.1.2.1 dX4_signatureOfRow_57 (by decide) ?_
      exact hP2 t12 hw hS (lv_sub hl [2, 0] rfl) h
    · have h := h.2 c11
      refine lv_aload_n C.1.1 C.1.2.1 dX4_signatureOfRow_34 rfl (lv_at hl 1 rfl) ?_
      obtain ⟨x_13, e13⟩ : ∃ z : Int, z = S 1032 14 := ⟨_, rfl⟩
      obtain ⟨o13, h⟩ := h x_13 e13
      refine y_getO C fl_X4_46 hw (ock_4 SB) rfl e13 o13 dX4_signatureOfRow_35 ?_
      refine y_getA C fl_X4_286 hw (oc_of SB o13) rfl (o := 2) rfl dX4_signatureOfRow_38 ?_
      refine y_iconst C dX4_signatureOfRow_41 ⟨by decide, by decide⟩ (fun v15 t15 => ?_)
      refine y_iald C hw (ac_3_6 SB o13) t15 ⟨by decide, by decide⟩ dX4_signatureOfRow_42 (fun v16 t16 => ?_)
      refine lv_aload_n C.1.1 C.1.2.1 dX4_signatureOfRow_43 rfl (lv_at hl 0 rfl) ?_
      refine y_getA C fl_X4_286 hw (oc_of SB o8) rfl (o := 2) rfl dX4_signatureOfRow_44 ?_
      refine y_iconst C dX4_signatureOfRow_47 ⟨by decide, by decide⟩ (fun v18 t18 => ?_)
      refine y_iald C hw (ac_3_6 SB o8) t18 ⟨by decide, by decide⟩ dX4_signatureOfRow_48 (fun v19 t19 => ?_)
      refine y_icmp_ne C t16 t19 dX4_signatureOfRow_49 (tgt := 54) (by decide) (fun c20 => ?_) (fun c20 => ?_)
      · have h := h.1 c20
        obtain ⟨x_21, e21⟩ : ∃ z : Int, z = w32 (x1 + 1) := ⟨_, rfl⟩
        have h := h x_21 e21
        obtain ⟨v21, t21, g21⟩ : ∃ z : Int32, z.toInt = x_21 ∧ xv1 + Int32.ofInt 1 = z := ⟨_, (ti_inc xt1 ⟨by decide, by decide⟩).trans e21.symm, rfl⟩
        refine lv_iinc (v := v21) (lv' := [(1, .int v21), (2, .ref (G.2.2 (x_8).toNat)), (0, .ref (G.2.2 1032))]) C.1.1 C.1.2.1 dX4_signatureOfRow_54 hl (k := 2) rfl g21 (by decide) rfl (fun ls hl => ?_)
        refine lv_goto (tgt := 2) C.1.1 C.1.2.1 dX4_signatureOfRow_57 (by decide) ?_
        exact hP2 t21 hw hS (lv_sub hl [2, 0] rfl) h
      · have h := h.2 c20
        refine lv_iload_n C.1.1 C.1.2.1 dX4_signatureOfRow_52 rfl (lv_at hl 2 rfl) ?_
        exact y_iret C hw hS xt1 ⟨h, rfl⟩ dX4_signatureOfRow_53
set_option maxHeartbeats 4000000 in
set_option maxRecDepth 10000 in
theorem uX4_signatureOfRow_2 {p : Program} {l : Launch} {e : Env} {s : State} {m : MethodId} {args : Array Value} {below : List Frame} {meth : Method} {c : Code} {G : GG} {SB : St} (C : Cx p s m args meth c G RX4 cX4_signatureOfRow 3 (some .int)) {S : St} {H : Heap} {locs : List Loc} {ls : Array Slot}  {k : Int → Prop} (hw : Wd G ((injC SB) S) H) (hS : va_S (AG G) s.heap H locs) {xv1 : Int32} {x1 : Int} (xt1 : xv1.toInt = x1) (hl : lv_has ls 3 [(0, .ref (G.2.2 1032)), (1, .int xv1)])  (h : wX4_signatureOfRow_2 S x1 k) : W p l e (rmF 1 21) s m args below meth c H locs 0 0 (MQ below (QcI G (injC SB) (fun r u => k r ∧ u = S)) args s 0 0 (AG G)) (F0 m 2 ls []) := by
  have key : ∀ (n : Nat) {H : Heap} {locs : List Loc} {ls : Array Slot} {xv1 : Int32} {x1 : Int}, xv1.toInt = x1 → Wd G ((injC SB) S) H → va_S (AG G) s.heap H locs → lv_has ls 3 [(0, .ref (G.2.2 1032)), (1, .int xv1)] → itP (fun (P : Int → Prop) (a : Int) => wX4_signatureOfRow_2_b S a (fun b0 => P (b0)) k) n (x1) → W p l e (rmF 1 21) s m args below meth c H locs 0 0 (MQ below (QcI G (injC SB) (fun r u => k r ∧ u = S)) args s 0 0 (AG G)) (F0 m 2 ls []) := by
    intro n
    induction n with
    | zero => intro H locs ls xv1 x1 xt1 hw hS hl h; exact h.elim
    | succ n ih =>
      intro H locs ls xv1 x1 xt1 hw hS hl h
      exact uX4_signatureOfRow_2_b C hw hS xt1 hl  (P2 := fun b0 => itP _ n (b0)) (fun q0 hw hS hl h => ih q0 hw hS hl h) h
  obtain ⟨n, hn⟩ := h
  exact key n xt1 hw hS hl hn
set_option maxHeartbeats 4000000 in
set_option maxRecDepth 10000 in
theorem uX4_signatureOfRow_0 {p : Program} {l : Launch} {e : Env} {s : State} {m : MethodId} {args : Array Value} {below : List Frame} {meth : Method} {c : Code} {G : GG} {SB : St} (C : Cx p s m args meth c G RX4 cX4_signatureOfRow 3 (some .int)) {S : St} {H : Heap} {locs : List Loc} {ls : Array Slot}  {k : Int → Prop} (hw : Wd G ((injC SB) S) H) (hS : va_S (AG G) s.heap H locs)  (hl : lv_has ls 3 [(0, .ref (G.2.2 1032))])  (h : wX4_signatureOfRow_0 S k) : W p l e (rmF 1 21) s m args below meth c H locs 0 0 (MQ below (QcI G (injC SB) (fun r u => k r ∧ u = S)) args s 0 0 (AG G)) (F0 m 0 ls []) := by
  refine y_iconst C dX4_signatureOfRow_0 ⟨by decide, by decide⟩ (fun v1 t1 => ?_)
  refine lv_istore_n (lv' := [(1, .int v1), (0, .ref (G.2.2 1032))]) C.1.1 C.1.2.1 dX4_signatureOfRow_1 rfl hl (by decide) rfl (fun ls hl => ?_)
  exact uX4_signatureOfRow_2 C hw hS t1 (lv_sub hl [1, 0] rfl)  h
theorem kX4_signatureOfRow (l : Launch) (G : GG) (SB S : St)  {k : Int → Prop} (h : wX4_signatureOfRow S k) : CnI l yX4_signatureOfRow cX4_signatureOfRow 3 (some .int) 1 21 G (injC SB) [.ref (G.2.2 1032)] S (fun r u => k r ∧ u = S) :=
  cn_body (by decide +kernel) (Nat.le_of_ble_eq_true rfl) (fun p e s m args below meth c ls C hw hl => uX4_signatureOfRow_0 C hw va_S.rf  (lv_sub hl [0] rfl) h)
set_option maxHeartbeats 4000000 in
set_option maxRecDepth 10000 in
theorem uX4_keepMember_47 {p : Program} {l : Launch} {e : Env} {s : State} {m : MethodId} {args : Array Value} {below : List Frame} {meth : Method} {c : Code} {G : GG} {SB : St} (C : Cx p s m args meth c G RX4 cX4_keepMember 3 none) {S : St} {H : Heap} {locs : List Loc} {ls : Array Slot} {P2 : Int → St → Prop} {k : St → Prop} (hw : Wd G ((injC SB) S) H) (hS : va_S (AG G) s.heap H locs) {xv1 : Int32} {x1 : Int} (xt1 : xv1.toInt = x1) {s0 : Int} (so0 : isO 3 s0) {sv1 : Int32} {s1 : Int} (st1 : sv1.toInt = s1) {sv2 : Int32} {s2 : Int} (st2 : sv2.toInt = s2) (hl : lv_has ls 3 [(0, .ref (G.2.2 1032)), (1, .int xv1)]) (hP2 : ∀ {H : Heap} {locs : List Loc} {ls : Array Slot} {Sy : St} {yv1 : Int32} {y1 : Int}, yv1.toInt = y1 → Wd G ((injC SB) Sy) H → va_S (AG G) s.heap H locs → lv_has ls 3 [(0, .ref (G.2.2 1032)), (1, .int yv1)] → P2 y1 Sy → W p l e (rmF 2 43) s m args below meth c H locs 0 0 (MQ below (QcV G (injC SB) k) args s 0 0 (AG G)) (F0 m 2 ls [])) (h : wX4_keepMember_47 S x1 s0 s1 s2 P2 k) : W p l e (rmF 2 43) s m args below meth c H locs 0 0 (MQ below (QcV G (injC SB) k) args s 0 0 (AG G)) (F0 m 47 ls [.int sv2, .int sv1, .ref (G.2.2 ((s0).toNat + 2))]) := by
  obtain ⟨b1, h⟩ := h
  obtain ⟨S_1, e1⟩ : ∃ z : St, z = up S (s0 + 2) s1 s2 := ⟨_, rfl⟩
  have h := h S_1 e1
  refine y_iast C hw hS (ac_3_6 SB so0) st1 st2 b1 dX4_keepMember_47 (fun H locs hw hS => ?_)
  have hw : Wd G ((injC SB) S_1) H := by rw [e1]; exact hw
  obtain ⟨x_2, e2⟩ : ∃ z : Int, z = w32 (x1 + 1) := ⟨_, rfl⟩
  have h := h x_2 e2
  obtain ⟨v2, t2, g2⟩ : ∃ z : Int32, z.toInt = x_2 ∧ xv1 + Int32.ofInt 1 = z := ⟨_, (ti_inc xt1 ⟨by decide, by decide⟩).trans e2.symm, rfl⟩
  refine lv_iinc (v := v2) (lv' := [(1, .int v2), (0, .ref (G.2.2 1032))]) C.1.1 C.1.2.1 dX4_keepMember_48 hl (k := 1) rfl g2 (by decide) rfl (fun ls hl => ?_)
  refine lv_goto (tgt := 2) C.1.1 C.1.2.1 dX4_keepMember_51 (by decide) ?_
  exact hP2 t2 hw hS (lv_sub hl [1, 0] rfl) h
set_option maxHeartbeats 4000000 in
set_option maxRecDepth 10000 in
theorem uX4_keepMember_2_b {p : Program} {l : Launch} {e : Env} {s : State} {m : MethodId} {args : Array Value} {below : List Frame} {meth : Method} {c : Code} {G : GG} {SB : St} (C : Cx p s m args meth c G RX4 cX4_keepMember 3 none) {S : St} {H : Heap} {locs : List Loc} {ls : Array Slot}  {P2 : Int → St → Prop} {k : St → Prop} (hw : Wd G ((injC SB) S) H) (hS : va_S (AG G) s.heap H locs) {xv1 : Int32} {x1 : Int} (xt1 : xv1.toInt = x1) (hl : lv_has ls 3 [(0, .ref (G.2.2 1032)), (1, .int xv1)])  (hP2 : ∀ {H : Heap} {locs : List Loc} {ls : Array Slot} {Sy : St} {yv1 : Int32} {y1 : Int}, yv1.toInt = y1 → Wd G ((injC SB) Sy) H → va_S (AG G) s.heap H locs → lv_has ls 3 [(0, .ref (G.2.2 1032)), (1, .int yv1)] → P2 y1 Sy → W p l e (rmF 2 43) s m args below meth c H locs 0 0 (MQ below (QcV G (injC SB) k) args s 0 0 (AG G)) (F0 m 2 ls [])) (h : wX4_keepMember_2_b S x1 P2 k) : W p l e (rmF 2 43) s m args below meth c H locs 0 0 (MQ below (QcV G (injC SB) k) args s 0 0 (AG G)) (F0 m 2 ls []) := by
  refine lv_iload_n C.1.1 C.1.2.1 dX4_keepMember_2 rfl (lv_at hl 1 rfl) ?_
  refine y_iconst C dX4_keepMember_3 ⟨by decide, by decide⟩ (fun v1 t1 => ?_)
  refine y_icmp_gt C xt1 t1 dX4_keepMember_4 (tgt := 54) (by decide) (fun c2 => ?_) (fun c2 => ?_)
  · have h := h.1 c2
    refine lv_aload_n C.1.1 C.1.2.1 dX4_keepMember_54 rfl (lv_at hl 0 rfl) ?_
    obtain ⟨x_3, e3⟩ : ∃ z : Int, z = S 1032 14 := ⟨_, rfl⟩
    obtain ⟨o3, h⟩ := h x_3 e3
    refine y_getO C fl_X4_46 hw (ock_4 SB) rfl e3 o3 dX4_keepMember_55 ?_
    refine lv_aload_n C.1.1 C.1.2.1 dX4_keepMember_58 rfl (lv_at hl 0 rfl) ?_
    refine y_cVIp C (As := []) (rest := [.ref (G.2.2 (x_3).toNat)]) ml_X4_289 (kX4_signatureOfRow l G SB S  h) (ock_4 SB) (T := TX4) (N := 15) rfl (by decide) ⟨(Nat.le_of_ble_eq_true rfl), (Nat.le_of_ble_eq_true rfl)⟩ hl.1 rfl rfl (Nat.le_of_ble_eq_true rfl) hw hS dX4_keepMember_59 (fun v4 x_4 H locs t4 h hw hS => ?_)
    obtain ⟨S_5, e5⟩ : ∃ z : St, z = up S x_3 7 x_4 := ⟨_, rfl⟩
    have h := h S_5 e5
    refine y_putI C fl_X4_293 fp_3_7 hw hS (oc_of SB o3) rfl t4 dX4_keepMember_62 (fun H locs hw hS => ?_)
    have hw : Wd G ((injC SB) S_5) H := by rw [e5]; exact hw
    refine lv_aload_n C.1.1 C.1.2.1 dX4_keepMember_65 rfl (lv_at hl 0 rfl) ?_
    obtain ⟨x_6, e6⟩ : ∃ z : Int, z = S_5 1032 12 := ⟨_, rfl⟩
    obtain ⟨o6, h⟩ := h x_6 e6
    refine y_getO C fl_X4_38 hw (ock_4 SB) rfl e6 o6 dX4_keepMember_66 ?_
    refine lv_dup C.1.1 C.1.2.1 dX4_keepMember_69 rfl ?_
    refine y_getI C fl_X4_266 hw (oc_of SB o6) rfl dX4_keepMember_70 (fun v7 t7 => ?_)
    refine y_iconst C dX4_keepMember_73 ⟨by decide, by decide⟩ (fun v8 t8 => ?_)
    refine y_iadd C t7 t8 dX4_keepMember_74 (fun v9 t9 => ?_)
    obtain ⟨S_10, e10⟩ : ∃ z : St, z = up S_5 x_6 17 (w32 (S_5 x_6 17 + 1)) := ⟨_, rfl⟩
    have h := h S_10 e10
    refine y_putI C fl_X4_266 fp_6_17 hw hS (oc_of SB o6) rfl t9 dX4_keepMember_75 (fun H locs hw hS => ?_)
    have hw : Wd G ((injC SB) S_10) H := by rw [e10]; exact hw
    refine lv_aload_n C.1.1 C.1.2.1 dX4_keepMember_78 rfl (lv_at hl 0 rfl) ?_
    obtain ⟨x_11, e11⟩ : ∃ z : Int, z = S_10 1032 3 := ⟨_, rfl⟩
    obtain ⟨o11, h⟩ := h x_11 e11
    refine y_getO C fl_X4_19 hw (ock_4 SB) rfl e11 o11 dX4_keepMember_79 ?_
    refine lv_dup C.1.1 C.1.2.1 dX4_keepMember_82 rfl ?_
    refine y_getI C fl_X4_154 hw (oc_of SB o11) rfl dX4_keepMember_83 (fun v12 t12 => ?_)
    refine y_iconst C dX4_keepMember_86 ⟨by decide, by decide⟩ (fun v13 t13 => ?_)
    refine y_iadd C t12 t13 dX4_keepMember_87 (fun v14 t14 => ?_)
    obtain ⟨S_15, e15⟩ : ∃ z : St, z = up S_10 x_11 3 (w32 (S_10 x_11 3 + 1)) := ⟨_, rfl⟩
    have h := h S_15 e15
    refine y_putI C fl_X4_154 fp_2_3 hw hS (oc_of SB o11) rfl t14 dX4_keepMember_88 (fun H locs hw hS => ?_)
    have hw : Wd G ((injC SB) S_15) H := by rw [e15]; exact hw
    exact y_vret C hw hS h dX4_keepMember_91
  · have h := h.2 c2
    refine lv_aload_n C.1.1 C.1.2.1 dX4_keepMember_7 rfl (lv_at hl 0 rfl) ?_
    obtain ⟨x_16, e16⟩ : ∃ z : Int, z = S 1032 14 := ⟨_, rfl⟩
    obtain ⟨o16, h⟩ := h x_16 e16
    refine y_getO C fl_X4_46 hw (ock_4 SB) rfl e16 o16 dX4_keepMember_8 ?_
    refine y_getA C fl_X4_279 hw (oc_of SB o16) rfl (o := 1) rfl dX4_keepMember_11 ?_
    refine lv_iload_n C.1.1 C.1.2.1 dX4_keepMember_14 rfl (lv_at hl 1 rfl) ?_
    obtain ⟨b18, h⟩ := h
    refine y_iald C hw (ac_3_5 SB o16) xt1 b18 dX4_keepMember_15 (fun v18 t18 => ?_)
    obtain ⟨x_19, e19⟩ : ∃ z : Int, z = S (x_16 + 1) x1 := ⟨_, rfl⟩
    have h := h x_19 e19
    have t19 := t18.trans e19.symm
    refine lv_istore_n (lv' := [(2, .int v18), (0, .ref (G.2.2 1032)), (1, .int xv1)]) C.1.1 C.1.2.1 dX4_keepMember_16 rfl hl (by decide) rfl (fun ls hl => ?_)
    refine lv_aload_n C.1.1 C.1.2.1 dX4_keepMember_17 rfl (lv_at hl 1 rfl) ?_
    obtain ⟨x_20, e20⟩ : ∃ z : Int, z = S 1032 14 := ⟨_, rfl⟩
    obtain ⟨o20, h⟩ := h x_20 e20
    refine y_getO C fl_X4_46 hw (ock_4 SB) rfl e20 o20 dX4_keepMember_18 ?_
    refine y_getA C fl_X4_286 hw (oc_of SB o20) rfl (o := 2) rfl dX4_keepMember_21 ?_
    refine lv_iload_n C.1.1 C.1.2.1 dX4_keepMember_24 rfl (lv_at hl 2 rfl) ?_
    refine lv_iload_n C.1.1 C.1.2.1 dX4_keepMember_25 rfl (lv_at hl 0 rfl) ?_
    refine y_bipush C dX4_keepMember_26 ⟨by decide, by decide⟩ (fun v22 t22 => ?_)
    refine y_icmp_lt C t19 t22 dX4_keepMember_28 (tgt := 46) (by decide) (fun c23 => ?_) (fun c23 => ?_)
    · have h := h.1 c23
      refine lv_iload_n C.1.1 C.1.2.1 dX4_keepMember_46 rfl (lv_at hl 0 rfl) ?_
      exact uX4_keepMember_47 C hw hS xt1 o20 xt1 t19 (lv_sub hl [1, 2] rfl) hP2 h
    · have h := h.2 c23
      refine lv_aload_n C.1.1 C.1.2.1 dX4_keepMember_31 rfl (lv_at hl 1 rfl) ?_
      obtain ⟨x_24, e24⟩ : ∃ z : Int, z = S 1032 12 := ⟨_, rfl⟩
      obtain ⟨o24, h⟩ := h x_24 e24
      refine y_getO C fl_X4_38 hw (ock_4 SB) rfl e24 o24 dX4_keepMember_32 ?_
      refine y_getA C fl_X4_186 hw (oc_of SB o24) rfl (o := 2) rfl dX4_keepMember_35 ?_
      refine lv_iload_n C.1.1 C.1.2.1 dX4_keepMember_38 rfl (lv_at hl 0 rfl) ?_
      refine y_bipush C dX4_keepMember_39 ⟨by decide, by decide⟩ (fun v26 t26 => ?_)
      refine y_isub C t19 t26 dX4_keepMember_41 (fun v27 t27 => ?_)
      obtain ⟨b28, h⟩ := h
      refine y_iald C hw (ac_6_8 SB o24) t27 b28 dX4_keepMember_42 (fun v28 t28 => ?_)
      refine lv_goto (tgt := 47) C.1.1 C.1.2.1 dX4_keepMember_43 (by decide) ?_
      exact uX4_keepMember_47 C hw hS xt1 o20 xt1 t28 (lv_sub hl [1, 2] rfl) hP2 h
set_option maxHeartbeats 4000000 in
set_option maxRecDepth 10000 in
theorem uX4_keepMember_2 {p : Program} {l : Launch} {e : Env} {s : State} {m : MethodId} {args : Array Value} {below : List Frame} {meth : Method} {c : Code} {G : GG} {SB : St} (C : Cx p s m args meth c G RX4 cX4_keepMember 3 none) {S : St} {H : Heap} {locs : List Loc} {ls : Array Slot}  {k : St → Prop} (hw : Wd G ((injC SB) S) H) (hS : va_S (AG G) s.heap H locs) {xv1 : Int32} {x1 : Int} (xt1 : xv1.toInt = x1) (hl : lv_has ls 3 [(0, .ref (G.2.2 1032)), (1, .int xv1)])  (h : wX4_keepMember_2 S x1 k) : W p l e (rmF 2 43) s m args below meth c H locs 0 0 (MQ below (QcV G (injC SB) k) args s 0 0 (AG G)) (F0 m 2 ls []) := by
  have key : ∀ (n : Nat) {H : Heap} {locs : List Loc} {ls : Array Slot} {S : St} {xv1 : Int32} {x1 : Int}, xv1.toInt = x1 → Wd G ((injC SB) S) H → va_S (AG G) s.heap H locs → lv_has ls 3 [(0, .ref (G.2.2 1032)), (1, .int xv1)] → itP (fun (P : Int × St → Prop) (a : Int × St) => wX4_keepMember_2_b a.2 a.1 (fun b0 b1 => P (b0, b1)) k) n (x1, S) → W p l e (rmF 2 43) s m args below meth c H locs 0 0 (MQ below (QcV G (injC SB) k) args s 0 0 (AG G)) (F0 m 2 ls []) := by
    intro n
    induction n with
    | zero => intro H locs ls S xv1 x1 xt1 hw hS hl h; exact h.elim
    | succ n ih =>
      intro H locs ls S xv1 x1 xt1 hw hS hl h
      exact uX4_keepMember_2_b C hw hS xt1 hl  (P2 := fun b0 b1 => itP _ n (b0, b1)) (fun q0 hw hS hl h => ih q0 hw hS hl h) h
  obtain ⟨n, hn⟩ := h
  exact key n xt1 hw hS hl hn
set_option maxHeartbeats 4000000 in
set_option maxRecDepth 10000 in
theorem uX4_keepMember_0 {p : Program} {l : Launch} {e : Env} {s : State} {m : MethodId} {args : Array Value} {below : List Frame} {meth : Method} {c : Code} {G : GG} {SB : St} (C : Cx p s m args meth c G RX4 cX4_keepMember 3 none) {S : St} {H : Heap} {locs : List Loc} {ls : Array Slot}  {k : St → Prop} (hw : Wd G ((injC SB) S) H) (hS : va_S (AG G) s.heap H locs)  (hl : lv_has ls 3 [(0, .ref (G.2.2 1032))])  (h : wX4_keepMember_0 S k) : W p l e (rmF 2 43) s m args below meth c H locs 0 0 (MQ below (QcV G (injC SB) k) args s 0 0 (AG G)) (F0 m 0 ls []) := by
  refine y_iconst C dX4_keepMember_0 ⟨by decide, by decide⟩ (fun v1 t1 => ?_)
  refine lv_istore_n (lv' := [(1, .int v1), (0, .ref (G.2.2 1032))]) C.1.1 C.1.2.1 dX4_keepMember_1 rfl hl (by decide) rfl (fun ls hl => ?_)
  exact uX4_keepMember_2 C hw hS t1 (lv_sub hl [1, 0] rfl)  h
theorem kX4_keepMember (l : Launch) (G : GG) (SB S : St)  {k : St → Prop} (h : wX4_keepMember S k) : CnV l yX4_keepMember cX4_keepMember 3 none 2 43 G (injC SB) [.ref (G.2.2 1032)] S k :=
  cn_body (by decide +kernel) (Nat.le_of_ble_eq_true rfl) (fun p e s m args below meth c ls C hw hl => uX4_keepMember_0 C hw va_S.rf  (lv_sub hl [0] rfl) h)
set_option maxHeartbeats 4000000 in
set_option maxRecDepth 10000 in
theorem uX4_readMember_175 {p : Program} {l : Launch} {e : Env} {s : State} {m : MethodId} {args : Array Value} {below : List Frame} {meth : Method} {c : Code} {G : GG} {SB : St} (C : Cx p s m args meth c G RX4 cX4_readMember 3 (some .boolean)) {S : St} {H : Heap} {locs : List Loc} {ls : Array Slot}  {k : Int → St → Prop} (hw : Wd G ((injC SB) S) H) (hS : va_S (AG G) s.heap H locs)  (hl : lv_has ls 3 [(0, .ref (G.2.2 1032))])  (h : wX4_readMember_175 S k) : W p l e (rmF 4 92) s m args below meth c H locs 0 0 (MQ below (QcI G (injC SB) k) args s 0 0 (AG G)) (F0 m 175 ls []) := by
  refine lv_aload_n C.1.1 C.1.2.1 dX4_readMember_175 rfl (lv_at hl 0 rfl) ?_
  refine y_cVI C (As := []) (rest := []) ml_X4_254 (kX4_readResult l G SB S  h) (ock_4 SB) (T := TX4) (N := 15) rfl (by decide) ⟨(Nat.le_of_ble_eq_true rfl), (Nat.le_of_ble_eq_true rfl)⟩ hl.1 rfl rfl (Nat.le_of_ble_eq_true rfl) hw hS dX4_readMember_176 (fun v1 x_1 S_1 H locs t1 h hw hS => ?_)
  refine y_if_eq C t1 dX4_readMember_179 (tgt := 205) (by decide) (fun c2 => ?_) (fun c2 => ?_)
  · have h := h.1 c2
    refine y_iconst C dX4_readMember_205 ⟨by decide, by decide⟩ (fun v3 t3 => ?_)
    exact y_zret C hw hS t3 (Or.inl rfl) h dX4_readMember_206
  · have h := h.2 c2
    refine lv_aload_n C.1.1 C.1.2.1 dX4_readMember_182 rfl (lv_at hl 0 rfl) ?_
    refine y_cVI C (As := []) (rest := []) ml_X4_257 (kX4_readMemberName l G SB S_1  h) (ock_4 SB) (T := TX4) (N := 15) rfl (by decide) ⟨(Nat.le_of_ble_eq_true rfl), (Nat.le_of_ble_eq_true rfl)⟩ hl.1 rfl rfl (Nat.le_of_ble_eq_true rfl) hw hS dX4_readMember_183 (fun v4 x_4 S_4 H locs t4 h hw hS => ?_)
    refine y_if_eq C t4 dX4_readMember_186 (tgt := 205) (by decide) (fun c5 => ?_) (fun c5 => ?_)
    · have h := h.1 c5
      refine y_iconst C dX4_readMember_205 ⟨by decide, by decide⟩ (fun v6 t6 => ?_)
      exact y_zret C hw hS t6 (Or.inl rfl) h dX4_readMember_206
    · have h := h.2 c5
      refine lv_aload_n C.1.1 C.1.2.1 dX4_readMember_189 rfl (lv_at hl 0 rfl) ?_
      refine y_cVI C (As := []) (rest := []) ml_X4_260 (kX4_readKinds l G SB S_4  h) (ock_4 SB) (T := TX4) (N := 15) rfl (by decide) ⟨(Nat.le_of_ble_eq_true rfl), (Nat.le_of_ble_eq_true rfl)⟩ hl.1 rfl rfl (Nat.le_of_ble_eq_true rfl) hw hS dX4_readMember_190 (fun v7 x_7 S_7 H locs t7 h hw hS => ?_)
      refine y_if_eq C t7 dX4_readMember_193 (tgt := 205) (by decide) (fun c8 => ?_) (fun c8 => ?_)
      · have h := h.1 c8
        refine y_iconst C dX4_readMember_205 ⟨by decide, by decide⟩ (fun v9 t9 => ?_)
        exact y_zret C hw hS t9 (Or.inl rfl) h dX4_readMember_206
      · have h := h.2 c8
        refine lv_aload_n C.1.1 C.1.2.1 dX4_readMember_196 rfl (lv_at hl 0 rfl) ?_
        refine y_bipush C dX4_readMember_197 ⟨by decide, by decide⟩ (fun v10 t10 => ?_)
        refine y_cVI C (As := [.int v10]) (rest := []) ml_X4_143 (kX4_take l G SB S_7 t10 h) (ock_4 SB) (T := TX4) (N := 15) rfl (by decide) ⟨(Nat.le_of_ble_eq_true rfl), (Nat.le_of_ble_eq_true rfl)⟩ hl.1 rfl rfl (Nat.le_of_ble_eq_true rfl) hw hS dX4_readMember_199 (fun v11 x_11 S_11 H locs t11 h hw hS => ?_)
        refine y_if_ne C t11 dX4_readMember_202 (tgt := 207) (by decide) (fun c12 => ?_) (fun c12 => ?_)
        · have h := h.1 c12
          refine lv_aload_n C.1.1 C.1.2.1 dX4_readMember_207 rfl (lv_at hl 0 rfl) ?_
          refine y_cVV C (As := []) (rest := []) ml_X4_263 (kX4_keepMember l G SB S_11  h) (ock_4 SB) (T := TX4) (N := 15) rfl (by decide) ⟨(Nat.le_of_ble_eq_true rfl), (Nat.le_of_ble_eq_true rfl)⟩ hl.1 rfl rfl (Nat.le_of_ble_eq_true rfl) hw hS dX4_readMember_208 (fun S_13 H locs h hw hS => ?_)
          refine y_iconst C dX4_readMember_211 ⟨by decide, by decide⟩ (fun v14 t14 => ?_)
          exact y_zret C hw hS t14 (Or.inr rfl) h dX4_readMember_212
        · have h := h.2 c12
          refine y_iconst C dX4_readMember_205 ⟨by decide, by decide⟩ (fun v15 t15 => ?_)
          exact y_zret C hw hS t15 (Or.inl rfl) h dX4_readMember_206
set_option maxHeartbeats 4000000 in
set_option maxRecDepth 10000 in
theorem uX4_readMember_153 {p : Program} {l : Launch} {e : Env} {s : State} {m : MethodId} {args : Array Value} {below : List Frame} {meth : Method} {c : Code} {G : GG} {SB : St} (C : Cx p s m args meth c G RX4 cX4_readMember 3 (some .boolean)) {S : St} {H : Heap} {locs : List Loc} {ls : Array Slot}  {k : Int → St → Prop} (hw : Wd G ((injC SB) S) H) (hS : va_S (AG G) s.heap H locs) {xv2 : Int32} {x2 : Int} (xt2 : xv2.toInt = x2) (hl : lv_has ls 3 [(0, .ref (G.2.2 1032)), (2, .int xv2)])  (h : wX4_readMember_153 S x2 k) : W p l e (rmF 4 92) s m args below meth c H locs 0 0 (MQ below (QcI G (injC SB) k) args s 0 0 (AG G)) (F0 m 153 ls []) := by
  refine lv_aload_n C.1.1 C.1.2.1 dX4_readMember_153 rfl (lv_at hl 0 rfl) ?_
  obtain ⟨x_1, e1⟩ : ∃ z : Int, z = S 1032 12 := ⟨_, rfl⟩
  obtain ⟨o1, h⟩ := h x_1 e1
  refine y_getO C fl_X4_38 hw (ock_4 SB) rfl e1 o1 dX4_readMember_154 ?_
  refine y_cVIp C (As := []) (rest := []) ml_X4_203 (kX6_isFace l G SB S o1 h) (oc_of SB o1) (T := TX6) (N := 20) rfl (by decide) ⟨(Nat.le_of_ble_eq_true rfl), (Nat.le_of_ble_eq_true rfl)⟩ hl.1 rfl rfl (Nat.le_of_ble_eq_true rfl) hw hS dX4_readMember_157 (fun v2 x_2 H locs t2 h hw hS => ?_)
  refine y_if_eq C t2 dX4_readMember_160 (tgt := 175) (by decide) (fun c3 => ?_) (fun c3 => ?_)
  · have h := h.1 c3
    exact uX4_readMember_175 C hw hS  (lv_sub hl [0] rfl)  h
  · have h := h.2 c3
    refine lv_iload_n C.1.1 C.1.2.1 dX4_readMember_163 rfl (lv_at hl 1 rfl) ?_
    refine y_if_ne C xt2 dX4_readMember_164 (tgt := 175) (by decide) (fun c4 => ?_) (fun c4 => ?_)
    · have h := h.1 c4
      exact uX4_readMember_175 C hw hS  (lv_sub hl [0] rfl)  h
    · have h := h.2 c4
      refine lv_aload_n C.1.1 C.1.2.1 dX4_readMember_167 rfl (lv_at hl 0 rfl) ?_
      obtain ⟨x_5, e5⟩ : ∃ z : Int, z = S 1032 14 := ⟨_, rfl⟩
      obtain ⟨o5, h⟩ := h x_5 e5
      refine y_getO C fl_X4_46 hw (ock_4 SB) rfl e5 o5 dX4_readMember_168 ?_
      refine y_iconst C dX4_readMember_171 ⟨by decide, by decide⟩ (fun v6 t6 => ?_)
      obtain ⟨S_7, e7⟩ : ∃ z : St, z = up S x_5 3 2 := ⟨_, rfl⟩
      have h := h S_7 e7
      refine y_putI C fl_X4_251 fp_3_3 hw hS (oc_of SB o5) rfl t6 dX4_readMember_172 (fun H locs hw hS => ?_)
      have hw : Wd G ((injC SB) S_7) H := by rw [e7]; exact hw
      exact uX4_readMember_175 C hw hS  (lv_sub hl [0] rfl)  h
set_option maxHeartbeats 4000000 in
set_option maxRecDepth 10000 in
theorem uX4_readMember_131 {p : Program} {l : Launch} {e : Env} {s : State} {m : MethodId} {args : Array Value} {below : List Frame} {meth : Method} {c : Code} {G : GG} {SB : St} (C : Cx p s m args meth c G RX4 cX4_readMember 3 (some .boolean)) {S : St} {H : Heap} {locs : List Loc} {ls : Array Slot}  {k : Int → St → Prop} (hw : Wd G ((injC SB) S) H) (hS : va_S (AG G) s.heap H locs) {xv1 : Int32} {x1 : Int} (xt1 : xv1.toInt = x1) {xv2 : Int32} {x2 : Int} (xt2 : xv2.toInt = x2) (hl : lv_has ls 3 [(0, .ref (G.2.2 1032)), (1, .int xv1), (2, .int xv2)])  (h : wX4_readMember_131 S x1 x2 k) : W p l e (rmF 4 92) s m args below meth c H locs 0 0 (MQ below (QcI G (injC SB) k) args s 0 0 (AG G)) (F0 m 131 ls []) := by
  refine lv_aload_n C.1.1 C.1.2.1 dX4_readMember_131 rfl (lv_at hl 0 rfl) ?_
  obtain ⟨x_1, e1⟩ : ∃ z : Int, z = S 1032 12 := ⟨_, rfl⟩
  obtain ⟨o1, h⟩ := h x_1 e1
  refine y_getO C fl_X4_38 hw (ock_4 SB) rfl e1 o1 dX4_readMember_132 ?_
  refine y_cVIp C (As := []) (rest := []) ml_X4_203 (kX6_isFace l G SB S o1 h) (oc_of SB o1) (T := TX6) (N := 20) rfl (by decide) ⟨(Nat.le_of_ble_eq_true rfl), (Nat.le_of_ble_eq_true rfl)⟩ hl.1 rfl rfl (Nat.le_of_ble_eq_true rfl) hw hS dX4_readMember_135 (fun v2 x_2 H locs t2 h hw hS => ?_)
  refine y_if_eq C t2 dX4_readMember_138 (tgt := 153) (by decide) (fun c3 => ?_) (fun c3 => ?_)
  · have h := h.1 c3
    exact uX4_readMember_153 C hw hS xt2 (lv_sub hl [0, 2] rfl)  h
  · have h := h.2 c3
    refine lv_iload_n C.1.1 C.1.2.1 dX4_readMember_141 rfl (lv_at hl 1 rfl) ?_
    refine y_if_ne C xt1 dX4_readMember_142 (tgt := 153) (by decide) (fun c4 => ?_) (fun c4 => ?_)
    · have h := h.1 c4
      exact uX4_readMember_153 C hw hS xt2 (lv_sub hl [0, 2] rfl)  h
    · have h := h.2 c4
      refine lv_aload_n C.1.1 C.1.2.1 dX4_readMember_145 rfl (lv_at hl 0 rfl) ?_
      obtain ⟨x_5, e5⟩ : ∃ z : Int, z = S 1032 14 := ⟨_, rfl⟩
      obtain ⟨o5, h⟩ := h x_5 e5
      refine y_getO C fl_X4_46 hw (ock_4 SB) rfl e5 o5 dX4_readMember_146 ?_
      refine y_iconst C dX4_readMember_149 ⟨by decide, by decide⟩ (fun v6 t6 => ?_)
      obtain ⟨S_7, e7⟩ : ∃ z : St, z = up S x_5 2 3 := ⟨_, rfl⟩
      have h := h S_7 e7
      refine y_putI C fl_X4_248 fp_3_2 hw hS (oc_of SB o5) rfl t6 dX4_readMember_150 (fun H locs hw hS => ?_)
      have hw : Wd G ((injC SB) S_7) H := by rw [e7]; exact hw
      exact uX4_readMember_153 C hw hS xt2 (lv_sub hl [0, 2] rfl)  h
set_option maxHeartbeats 4000000 in
set_option maxRecDepth 10000 in
theorem uX4_readMember_117 {p : Program} {l : Launch} {e : Env} {s : State} {m : MethodId} {args : Array Value} {below : List Frame} {meth : Method} {c : Code} {G : GG} {SB : St} (C : Cx p s m args meth c G RX4 cX4_readMember 3 (some .boolean)) {S : St} {H : Heap} {locs : List Loc} {ls : Array Slot}  {k : Int → St → Prop} (hw : Wd G ((injC SB) S) H) (hS : va_S (AG G) s.heap H locs) {xv1 : Int32} {x1 : Int} (xt1 : xv1.toInt = x1) {sv0 : Int32} {s0 : Int} (st0 : sv0.toInt = s0) (hl : lv_has ls 3 [(0, .ref (G.2.2 1032)), (1, .int xv1)])  (h : wX4_readMember_117 S x1 s0 k) : W p l e (rmF 4 92) s m args below meth c H locs 0 0 (MQ below (QcI G (injC SB) k) args s 0 0 (AG G)) (F0 m 117 ls [.int sv0]) := by
  refine lv_istore_n (lv' := [(2, .int sv0), (0, .ref (G.2.2 1032)), (1, .int xv1)]) C.1.1 C.1.2.1 dX4_readMember_117 rfl hl (by decide) rfl (fun ls hl => ?_)
  refine lv_iload_n C.1.1 C.1.2.1 dX4_readMember_118 rfl (lv_at hl 0 rfl) ?_
  refine y_if_eq C st0 dX4_readMember_119 (tgt := 131) (by decide) (fun c1 => ?_) (fun c1 => ?_)
  · have h := h.1 c1
    exact uX4_readMember_131 C hw hS xt1 st0 (lv_sub hl [1, 2, 0] rfl)  h
  · have h := h.2 c1
    refine lv_aload_n C.1.1 C.1.2.1 dX4_readMember_122 rfl (lv_at hl 1 rfl) ?_
    refine y_cVI C (As := []) (rest := []) ml_X4_245 (kX4_readForm l G SB S  h) (ock_4 SB) (T := TX4) (N := 15) rfl (by decide) ⟨(Nat.le_of_ble_eq_true rfl), (Nat.le_of_ble_eq_true rfl)⟩ hl.1 rfl rfl (Nat.le_of_ble_eq_true rfl) hw hS dX4_readMember_123 (fun v2 x_2 S_2 H locs t2 h hw hS => ?_)
    refine y_if_ne C t2 dX4_readMember_126 (tgt := 131) (by decide) (fun c3 => ?_) (fun c3 => ?_)
    · have h := h.1 c3
      exact uX4_readMember_131 C hw hS xt1 st0 (lv_sub hl [1, 2, 0] rfl)  h
    · have h := h.2 c3
      refine y_iconst C dX4_readMember_129 ⟨by decide, by decide⟩ (fun v4 t4 => ?_)
      exact y_zret C hw hS t4 (Or.inl rfl) h dX4_readMember_130
set_option maxHeartbeats 4000000 in
set_option maxRecDepth 10000 in
theorem uX4_readMember_112 {p : Program} {l : Launch} {e : Env} {s : State} {m : MethodId} {args : Array Value} {below : List Frame} {meth : Method} {c : Code} {G : GG} {SB : St} (C : Cx p s m args meth c G RX4 cX4_readMember 3 (some .boolean)) {S : St} {H : Heap} {locs : List Loc} {ls : Array Slot}  {k : Int → St → Prop} (hw : Wd G ((injC SB) S) H) (hS : va_S (AG G) s.heap H locs) {xv1 : Int32} {x1 : Int} (xt1 : xv1.toInt = x1) (hl : lv_has ls 3 [(0, .ref (G.2.2 1032)), (1, .int xv1)])  (h : wX4_readMember_112 S x1 k) : W p l e (rmF 4 92) s m args below meth c H locs 0 0 (MQ below (QcI G (injC SB) k) args s 0 0 (AG G)) (F0 m 112 ls []) := by
  refine y_iconst C dX4_readMember_112 ⟨by decide, by decide⟩ (fun v1 t1 => ?_)
  refine lv_goto (tgt := 117) C.1.1 C.1.2.1 dX4_readMember_113 (by decide) ?_
  exact uX4_readMember_117 C hw hS xt1 t1 (lv_sub hl [0, 1] rfl)  h
set_option maxHeartbeats 4000000 in
set_option maxRecDepth 10000 in
theorem uX4_readMember_82 {p : Program} {l : Launch} {e : Env} {s : State} {m : MethodId} {args : Array Value} {below : List Frame} {meth : Method} {c : Code} {G : GG} {SB : St} (C : Cx p s m args meth c G RX4 cX4_readMember 3 (some .boolean)) {S : St} {H : Heap} {locs : List Loc} {ls : Array Slot}  {k : Int → St → Prop} (hw : Wd G ((injC SB) S) H) (hS : va_S (AG G) s.heap H locs) {xv1 : Int32} {x1 : Int} (xt1 : xv1.toInt = x1) (hl : lv_has ls 3 [(0, .ref (G.2.2 1032)), (1, .int xv1)])  (h : wX4_readMember_82 S x1 k) : W p l e (rmF 4 92) s m args below meth c H locs 0 0 (MQ below (QcI G (injC SB) k) args s 0 0 (AG G)) (F0 m 82 ls []) := by
  refine lv_aload_n C.1.1 C.1.2.1 dX4_readMember_82 rfl (lv_at hl 0 rfl) ?_
  refine y_getI C fl_X4_60 hw (ock_4 SB) rfl dX4_readMember_83 (fun v1 t1 => ?_)
  refine y_sipush C dX4_readMember_86 ⟨by decide, by decide⟩ (fun v2 t2 => ?_)
  refine y_icmp_eq C t1 t2 dX4_readMember_89 (tgt := 112) (by decide) (fun c3 => ?_) (fun c3 => ?_)
  · have h := h.1 c3
    exact uX4_readMember_112 C hw hS xt1 (lv_sub hl [0, 1] rfl)  h
  · have h := h.2 c3
    refine lv_aload_n C.1.1 C.1.2.1 dX4_readMember_92 rfl (lv_at hl 0 rfl) ?_
    refine y_getI C fl_X4_60 hw (ock_4 SB) rfl dX4_readMember_93 (fun v4 t4 => ?_)
    refine y_sipush C dX4_readMember_96 ⟨by decide, by decide⟩ (fun v5 t5 => ?_)
    refine y_icmp_eq C t4 t5 dX4_readMember_99 (tgt := 112) (by decide) (fun c6 => ?_) (fun c6 => ?_)
    · have h := h.1 c6
      exact uX4_readMember_112 C hw hS xt1 (lv_sub hl [0, 1] rfl)  h
    · have h := h.2 c6
      refine lv_aload_n C.1.1 C.1.2.1 dX4_readMember_102 rfl (lv_at hl 0 rfl) ?_
      refine y_getI C fl_X4_60 hw (ock_4 SB) rfl dX4_readMember_103 (fun v7 t7 => ?_)
      refine y_sipush C dX4_readMember_106 ⟨by decide, by decide⟩ (fun v8 t8 => ?_)
      refine y_icmp_ne C t7 t8 dX4_readMember_109 (tgt := 116) (by decide) (fun c9 => ?_) (fun c9 => ?_)
      · have h := h.1 c9
        refine y_iconst C dX4_readMember_116 ⟨by decide, by decide⟩ (fun v10 t10 => ?_)
        exact uX4_readMember_117 C hw hS xt1 t10 (lv_sub hl [0, 1] rfl)  h
      · have h := h.2 c9
        exact uX4_readMember_112 C hw hS xt1 (lv_sub hl [0, 1] rfl)  h
set_option maxHeartbeats 4000000 in
set_option maxRecDepth 10000 in
theorem uX4_readMember_68 {p : Program} {l : Launch} {e : Env} {s : State} {m : MethodId} {args : Array Value} {below : List Frame} {meth : Method} {c : Code} {G : GG} {SB : St} (C : Cx p s m args meth c G RX4 cX4_readMember 3 (some .boolean)) {S : St} {H : Heap} {locs : List Loc} {ls : Array Slot}  {k : Int → St → Prop} (hw : Wd G ((injC SB) S) H) (hS : va_S (AG G) s.heap H locs) {sv0 : Int32} {s0 : Int} (st0 : sv0.toInt = s0) (hl : lv_has ls 3 [(0, .ref (G.2.2 1032))])  (h : wX4_readMember_68 S s0 k) : W p l e (rmF 4 92) s m args below meth c H locs 0 0 (MQ below (QcI G (injC SB) k) args s 0 0 (AG G)) (F0 m 68 ls [.int sv0]) := by
  refine lv_istore_n (lv' := [(1, .int sv0), (0, .ref (G.2.2 1032))]) C.1.1 C.1.2.1 dX4_readMember_68 rfl hl (by decide) rfl (fun ls hl => ?_)
  refine lv_iload_n C.1.1 C.1.2.1 dX4_readMember_69 rfl (lv_at hl 0 rfl) ?_
  refine y_if_eq C st0 dX4_readMember_70 (tgt := 82) (by decide) (fun c1 => ?_) (fun c1 => ?_)
  · have h := h.1 c1
    exact uX4_readMember_82 C hw hS st0 (lv_sub hl [1, 0] rfl)  h
  · have h := h.2 c1
    refine lv_aload_n C.1.1 C.1.2.1 dX4_readMember_73 rfl (lv_at hl 1 rfl) ?_
    refine y_cVI C (As := []) (rest := []) ml_X4_242 (kX4_readAccess l G SB S  h) (ock_4 SB) (T := TX4) (N := 15) rfl (by decide) ⟨(Nat.le_of_ble_eq_true rfl), (Nat.le_of_ble_eq_true rfl)⟩ hl.1 rfl rfl (Nat.le_of_ble_eq_true rfl) hw hS dX4_readMember_74 (fun v2 x_2 S_2 H locs t2 h hw hS => ?_)
    refine y_if_ne C t2 dX4_readMember_77 (tgt := 82) (by decide) (fun c3 => ?_) (fun c3 => ?_)
    · have h := h.1 c3
      exact uX4_readMember_82 C hw hS st0 (lv_sub hl [1, 0] rfl)  h
    · have h := h.2 c3
      refine y_iconst C dX4_readMember_80 ⟨by decide, by decide⟩ (fun v4 t4 => ?_)
      exact y_zret C hw hS t4 (Or.inl rfl) h dX4_readMember_81
set_option maxHeartbeats 4000000 in
set_option maxRecDepth 10000 in
theorem uX4_readMember_63 {p : Program} {l : Launch} {e : Env} {s : State} {m : MethodId} {args : Array Value} {below : List Frame} {meth : Method} {c : Code} {G : GG} {SB : St} (C : Cx p s m args meth c G RX4 cX4_readMember 3 (some .boolean)) {S : St} {H : Heap} {locs : List Loc} {ls : Array Slot}  {k : Int → St → Prop} (hw : Wd G ((injC SB) S) H) (hS : va_S (AG G) s.heap H locs)  (hl : lv_has ls 3 [(0, .ref (G.2.2 1032))])  (h : wX4_readMember_63 S k) : W p l e (rmF 4 92) s m args below meth c H locs 0 0 (MQ below (QcI G (injC SB) k) args s 0 0 (AG G)) (F0 m 63 ls []) := by
  refine y_iconst C dX4_readMember_63 ⟨by decide, by decide⟩ (fun v1 t1 => ?_)
  refine lv_goto (tgt := 68) C.1.1 C.1.2.1 dX4_readMember_64 (by decide) ?_
  exact uX4_readMember_68 C hw hS t1 (lv_sub hl [0] rfl)  h
set_option maxHeartbeats 4000000 in
set_option maxRecDepth 10000 in
theorem uX4_readMember_0 {p : Program} {l : Launch} {e : Env} {s : State} {m : MethodId} {args : Array Value} {below : List Frame} {meth : Method} {c : Code} {G : GG} {SB : St} (C : Cx p s m args meth c G RX4 cX4_readMember 3 (some .boolean)) {S : St} {H : Heap} {locs : List Loc} {ls : Array Slot}  {k : Int → St → Prop} (hw : Wd G ((injC SB) S) H) (hS : va_S (AG G) s.heap H locs)  (hl : lv_has ls 3 [(0, .ref (G.2.2 1032))])  (h : wX4_readMember_0 S k) : W p l e (rmF 4 92) s m args below meth c H locs 0 0 (MQ below (QcI G (injC SB) k) args s 0 0 (AG G)) (F0 m 0 ls []) := by
  refine lv_aload_n C.1.1 C.1.2.1 dX4_readMember_0 rfl (lv_at hl 0 rfl) ?_
  refine lv_aload_n C.1.1 C.1.2.1 dX4_readMember_1 rfl (lv_at hl 0 rfl) ?_
  obtain ⟨x_1, e1⟩ : ∃ z : Int, z = S 1032 3 := ⟨_, rfl⟩
  obtain ⟨o1, h⟩ := h x_1 e1
  refine y_getO C fl_X4_19 hw (ock_4 SB) rfl e1 o1 dX4_readMember_2 ?_
  refine y_getA C fl_X4_42 hw (oc_of SB o1) rfl (o := 2) rfl dX4_readMember_5 ?_
  refine lv_aload_n C.1.1 C.1.2.1 dX4_readMember_8 rfl (lv_at hl 0 rfl) ?_
  obtain ⟨x_3, e3⟩ : ∃ z : Int, z = S 1032 3 := ⟨_, rfl⟩
  obtain ⟨o3, h⟩ := h x_3 e3
  refine y_getO C fl_X4_19 hw (ock_4 SB) rfl e3 o3 dX4_readMember_9 ?_
  refine y_getI C fl_X4_154 hw (oc_of SB o3) rfl dX4_readMember_12 (fun v4 t4 => ?_)
  obtain ⟨b5, h⟩ := h
  obtain ⟨x_5, e5⟩ : ∃ z : Int, z = x_1 + 150 + 3 * (S x_3 3) := ⟨_, rfl⟩
  have h := h x_5 e5
  have o5 : isO 3 x_5 := isO_mb o1 b5 e5
  refine y_mbO C hw o1 t4 b5 e5 dX4_readMember_15 ?_
  obtain ⟨S_6, e6⟩ : ∃ z : St, z = up S 1032 14 x_5 := ⟨_, rfl⟩
  have h := h S_6 e6
  refine y_putR C fl_X4_46 fp_4_14 hw hS (ock_4 SB) rfl o5.1 dX4_readMember_16 (fun H locs hw hS => ?_)
  have hw : Wd G ((injC SB) S_6) H := by rw [e6]; exact hw
  refine lv_aload_n C.1.1 C.1.2.1 dX4_readMember_19 rfl (lv_at hl 0 rfl) ?_
  obtain ⟨x_7, e7⟩ : ∃ z : Int, z = S_6 1032 14 := ⟨_, rfl⟩
  obtain ⟨o7, h⟩ := h x_7 e7
  refine y_getO C fl_X4_46 hw (ock_4 SB) rfl e7 o7 dX4_readMember_20 ?_
  refine lv_aload_n C.1.1 C.1.2.1 dX4_readMember_23 rfl (lv_at hl 0 rfl) ?_
  obtain ⟨x_8, e8⟩ : ∃ z : Int, z = S_6 1032 12 := ⟨_, rfl⟩
  obtain ⟨o8, h⟩ := h x_8 e8
  refine y_getO C fl_X4_38 hw (ock_4 SB) rfl e8 o8 dX4_readMember_24 ?_
  refine y_getI C fl_X4_189 hw (oc_of SB o8) rfl dX4_readMember_27 (fun v9 t9 => ?_)
  refine y_cVV C (As := [.int v9]) (rest := []) ml_X4_237 (kX3_clear l G SB S_6 o7 t9 h) (oc_of SB o7) (T := TX3) (N := 8) rfl (by decide) ⟨(Nat.le_of_ble_eq_true rfl), (Nat.le_of_ble_eq_true rfl)⟩ hl.1 rfl rfl (Nat.le_of_ble_eq_true rfl) hw hS dX4_readMember_30 (fun S_10 H locs h hw hS => ?_)
  refine lv_aload_n C.1.1 C.1.2.1 dX4_readMember_33 rfl (lv_at hl 0 rfl) ?_
  refine y_getI C fl_X4_60 hw (ock_4 SB) rfl dX4_readMember_34 (fun v11 t11 => ?_)
  refine y_sipush C dX4_readMember_37 ⟨by decide, by decide⟩ (fun v12 t12 => ?_)
  refine y_icmp_eq C t11 t12 dX4_readMember_40 (tgt := 63) (by decide) (fun c13 => ?_) (fun c13 => ?_)
  · have h := h.1 c13
    exact uX4_readMember_63 C hw hS  (lv_sub hl [0] rfl)  h
  · have h := h.2 c13
    refine lv_aload_n C.1.1 C.1.2.1 dX4_readMember_43 rfl (lv_at hl 0 rfl) ?_
    refine y_getI C fl_X4_60 hw (ock_4 SB) rfl dX4_readMember_44 (fun v14 t14 => ?_)
    refine y_sipush C dX4_readMember_47 ⟨by decide, by decide⟩ (fun v15 t15 => ?_)
    refine y_icmp_eq C t14 t15 dX4_readMember_50 (tgt := 63) (by decide) (fun c16 => ?_) (fun c16 => ?_)
    · have h := h.1 c16
      exact uX4_readMember_63 C hw hS  (lv_sub hl [0] rfl)  h
    · have h := h.2 c16
      refine lv_aload_n C.1.1 C.1.2.1 dX4_readMember_53 rfl (lv_at hl 0 rfl) ?_
      refine y_getI C fl_X4_60 hw (ock_4 SB) rfl dX4_readMember_54 (fun v17 t17 => ?_)
      refine y_sipush C dX4_readMember_57 ⟨by decide, by decide⟩ (fun v18 t18 => ?_)
      refine y_icmp_ne C t17 t18 dX4_readMember_60 (tgt := 67) (by decide) (fun c19 => ?_) (fun c19 => ?_)
      · have h := h.1 c19
        refine y_iconst C dX4_readMember_67 ⟨by decide, by decide⟩ (fun v20 t20 => ?_)
        exact uX4_readMember_68 C hw hS t20 (lv_sub hl [0] rfl)  h
      · have h := h.2 c19
        exact uX4_readMember_63 C hw hS  (lv_sub hl [0] rfl)  h
theorem kX4_readMember (l : Launch) (G : GG) (SB S : St)  {k : Int → St → Prop} (h : wX4_readMember S k) : CnI l yX4_readMember cX4_readMember 3 (some .boolean) 4 92 G (injC SB) [.ref (G.2.2 1032)] S k :=
  cn_body (by decide +kernel) (Nat.le_of_ble_eq_true rfl) (fun p e s m args below meth c ls C hw hl => uX4_readMember_0 C hw va_S.rf  (lv_sub hl [0] rfl) h)
set_option maxHeartbeats 4000000 in
set_option maxRecDepth 10000 in
theorem uX4_packNumber_2_b {p : Program} {l : Launch} {e : Env} {s : State} {m : MethodId} {args : Array Value} {below : List Frame} {meth : Method} {c : Code} {G : GG} {SB : St} (C : Cx p s m args meth c G RX4 cX4_packNumber 4 (some .int)) {S : St} {H : Heap} {locs : List Loc} {ls : Array Slot}  {P2 : Int → Prop} {k : Int → St → Prop} (hw : Wd G ((injC SB) S) H) (hS : va_S (AG G) s.heap H locs) {xv1 : Int64} {x1 : Int} (xt1 : xv1.toInt = x1) {xv3 : Int32} {x3 : Int} (xt3 : xv3.toInt = x3) (hl : lv_has ls 4 [(0, .ref (G.2.2 1032)), (1, .long xv1), (3, .int xv3)])  (hP2 : ∀ {H : Heap} {locs : List Loc} {ls : Array Slot} {yv3 : Int32} {y3 : Int}, yv3.toInt = y3 → Wd G ((injC SB) S) H → va_S (AG G) s.heap H locs → lv_has ls 4 [(0, .ref (G.2.2 1032)), (1, .long xv1), (3, .int yv3)] → P2 y3 → W p l e (rmF 0 0) s m args below meth c H locs 0 0 (MQ below (QcI G (injC SB) k) args s 0 0 (AG G)) (F0 m 2 ls [])) (h : wX4_packNumber_2_b S x1 x3 P2 k) : W p l e (rmF 0 0) s m args below meth c H locs 0 0 (MQ below (QcI G (injC SB) k) args s 0 0 (AG G)) (F0 m 2 ls []) := by
  refine lv_iload_n C.1.1 C.1.2.1 dX4_packNumber_2 rfl (lv_at hl 2 rfl) ?_
  refine lv_aload_n C.1.1 C.1.2.1 dX4_packNumber_3 rfl (lv_at hl 0 rfl) ?_
  obtain ⟨x_1, e1⟩ : ∃ z : Int, z = S 1032 3 := ⟨_, rfl⟩
  obtain ⟨o1, h⟩ := h x_1 e1
  refine y_getO C fl_X4_19 hw (ock_4 SB) rfl e1 o1 dX4_packNumber_4 ?_
  refine y_getI C fl_X4_146 hw (oc_of SB o1) rfl dX4_packNumber_7 (fun v2 t2 => ?_)
  refine y_icmp_ge C xt3 t2 dX4_packNumber_10 (tgt := 34) (by decide) (fun c3 => ?_) (fun c3 => ?_)
  · have h := h.1 c3
    refine lv_aload_n C.1.1 C.1.2.1 dX4_packNumber_34 rfl (lv_at hl 0 rfl) ?_
    obtain ⟨x_4, e4⟩ : ∃ z : Int, z = S 1032 3 := ⟨_, rfl⟩
    obtain ⟨o4, h⟩ := h x_4 e4
    refine y_getO C fl_X4_19 hw (ock_4 SB) rfl e4 o4 dX4_packNumber_35 ?_
    refine y_getI C fl_X4_146 hw (oc_of SB o4) rfl dX4_packNumber_38 (fun v5 t5 => ?_)
    refine lv_aload_n C.1.1 C.1.2.1 dX4_packNumber_41 rfl (lv_at hl 0 rfl) ?_
    refine y_getA C fl_X4_9 hw (ock_4 SB) rfl (o := 1) rfl dX4_packNumber_42 ?_
    refine y_alen C hw (ack_4_2 SB) ⟨by decide, by decide⟩ ⟨by decide, by decide⟩ dX4_packNumber_45 (fun v7 t7 => ?_)
    refine y_icmp_ge C t5 t7 dX4_packNumber_46 (tgt := 75) (by decide) (fun c8 => ?_) (fun c8 => ?_)
    · have h := h.1 c8
      refine lv_aload_n C.1.1 C.1.2.1 dX4_packNumber_75 rfl (lv_at hl 0 rfl) ?_
      obtain ⟨x_9, e9⟩ : ∃ z : Int, z = S 1032 3 := ⟨_, rfl⟩
      obtain ⟨o9, h⟩ := h x_9 e9
      refine y_getO C fl_X4_19 hw (ock_4 SB) rfl e9 o9 dX4_packNumber_76 ?_
      refine y_getI C fl_X4_146 hw (oc_of SB o9) rfl dX4_packNumber_79 (fun v10 t10 => ?_)
      exact y_iret C hw hS t10 h dX4_packNumber_82
    · have h := h.2 c8
      refine lv_aload_n C.1.1 C.1.2.1 dX4_packNumber_49 rfl (lv_at hl 0 rfl) ?_
      refine y_getA C fl_X4_9 hw (ock_4 SB) rfl (o := 1) rfl dX4_packNumber_50 ?_
      refine lv_aload_n C.1.1 C.1.2.1 dX4_packNumber_53 rfl (lv_at hl 0 rfl) ?_
      obtain ⟨x_12, e12⟩ : ∃ z : Int, z = S 1032 3 := ⟨_, rfl⟩
      obtain ⟨o12, h⟩ := h x_12 e12
      refine y_getO C fl_X4_19 hw (ock_4 SB) rfl e12 o12 dX4_packNumber_54 ?_
      refine y_getI C fl_X4_146 hw (oc_of SB o12) rfl dX4_packNumber_57 (fun v13 t13 => ?_)
      refine lv_lload_n C.1.1 C.1.2.1 dX4_packNumber_60 rfl (lv_at hl 1 rfl) ?_
      obtain ⟨b14, h⟩ := h
      obtain ⟨S_14, e14⟩ : ∃ z : St, z = up S 1033 (S x_12 8) x1 := ⟨_, rfl⟩
      have h := h S_14 e14
      refine y_last C hw hS (ack_4_2 SB) t13 xt1 b14 dX4_packNumber_61 (fun H locs hw hS => ?_)
      have hw : Wd G ((injC SB) S_14) H := by rw [e14]; exact hw
      refine lv_aload_n C.1.1 C.1.2.1 dX4_packNumber_62 rfl (lv_at hl 0 rfl) ?_
      obtain ⟨x_15, e15⟩ : ∃ z : Int, z = S_14 1032 3 := ⟨_, rfl⟩
      obtain ⟨o15, h⟩ := h x_15 e15
      refine y_getO C fl_X4_19 hw (ock_4 SB) rfl e15 o15 dX4_packNumber_63 ?_
      refine lv_dup C.1.1 C.1.2.1 dX4_packNumber_66 rfl ?_
      refine y_getI C fl_X4_146 hw (oc_of SB o15) rfl dX4_packNumber_67 (fun v16 t16 => ?_)
      refine y_iconst C dX4_packNumber_70 ⟨by decide, by decide⟩ (fun v17 t17 => ?_)
      refine y_iadd C t16 t17 dX4_packNumber_71 (fun v18 t18 => ?_)
      obtain ⟨S_19, e19⟩ : ∃ z : St, z = up S_14 x_15 8 (w32 (S_14 x_15 8 + 1)) := ⟨_, rfl⟩
      have h := h S_19 e19
      refine y_putI C fl_X4_146 fp_2_8 hw hS (oc_of SB o15) rfl t18 dX4_packNumber_72 (fun H locs hw hS => ?_)
      have hw : Wd G ((injC SB) S_19) H := by rw [e19]; exact hw
      refine lv_aload_n C.1.1 C.1.2.1 dX4_packNumber_75 rfl (lv_at hl 0 rfl) ?_
      obtain ⟨x_20, e20⟩ : ∃ z : Int, z = S_19 1032 3 := ⟨_, rfl⟩
      obtain ⟨o20, h⟩ := h x_20 e20
      refine y_getO C fl_X4_19 hw (ock_4 SB) rfl e20 o20 dX4_packNumber_76 ?_
      refine y_getI C fl_X4_146 hw (oc_of SB o20) rfl dX4_packNumber_79 (fun v21 t21 => ?_)
      exact y_iret C hw hS t21 h dX4_packNumber_82
  · have h := h.2 c3
    refine lv_aload_n C.1.1 C.1.2.1 dX4_packNumber_13 rfl (lv_at hl 0 rfl) ?_
    refine y_getA C fl_X4_9 hw (ock_4 SB) rfl (o := 1) rfl dX4_packNumber_14 ?_
    refine lv_iload_n C.1.1 C.1.2.1 dX4_packNumber_17 rfl (lv_at hl 2 rfl) ?_
    obtain ⟨b23, h⟩ := h
    refine y_lald C hw (ack_4_2 SB) xt3 b23 dX4_packNumber_18 (fun v23 t23 => ?_)
    refine lv_lload_n C.1.1 C.1.2.1 dX4_packNumber_19 rfl (lv_at hl 1 rfl) ?_
    refine y_lcmp C t23 xt1 dX4_packNumber_20 (fun v24 t24 => ?_)
    refine y_if_ne C t24 dX4_packNumber_21 (tgt := 28) (by decide) (fun c25 => ?_) (fun c25 => ?_)
    · have c25 := cmp_ne.mp c25
      have h := h.1 c25
      obtain ⟨x_26, e26⟩ : ∃ z : Int, z = w32 (x3 + 1) := ⟨_, rfl⟩
      have h := h x_26 e26
      obtain ⟨v26, t26, g26⟩ : ∃ z : Int32, z.toInt = x_26 ∧ xv3 + Int32.ofInt 1 = z := ⟨_, (ti_inc xt3 ⟨by decide, by decide⟩).trans e26.symm, rfl⟩
      refine lv_iinc (v := v26) (lv' := [(3, .int v26), (0, .ref (G.2.2 1032)), (1, .long xv1)]) C.1.1 C.1.2.1 dX4_packNumber_28 hl (k := 2) rfl g26 (by decide) rfl (fun ls hl => ?_)
      refine lv_goto (tgt := 2) C.1.1 C.1.2.1 dX4_packNumber_31 (by decide) ?_
      exact hP2 t26 hw hS (lv_sub hl [1, 2, 0] rfl) h
    · have c25 := cmp_eq.mp c25
      have h := h.2 c25
      refine lv_iload_n C.1.1 C.1.2.1 dX4_packNumber_24 rfl (lv_at hl 2 rfl) ?_
      refine y_iconst C dX4_packNumber_25 ⟨by decide, by decide⟩ (fun v27 t27 => ?_)
      refine y_iadd C xt3 t27 dX4_packNumber_26 (fun v28 t28 => ?_)
      exact y_iret C hw hS t28 h dX4_packNumber_27
set_option maxHeartbeats 4000000 in
set_option maxRecDepth 10000 in
theorem uX4_packNumber_2 {p : Program} {l : Launch} {e : Env} {s : State} {m : MethodId} {args : Array Value} {below : List Frame} {meth : Method} {c : Code} {G : GG} {SB : St} (C : Cx p s m args meth c G RX4 cX4_packNumber 4 (some .int)) {S : St} {H : Heap} {locs : List Loc} {ls : Array Slot}  {k : Int → St → Prop} (hw : Wd G ((injC SB) S) H) (hS : va_S (AG G) s.heap H locs) {xv1 : Int64} {x1 : Int} (xt1 : xv1.toInt = x1) {xv3 : Int32} {x3 : Int} (xt3 : xv3.toInt = x3) (hl : lv_has ls 4 [(0, .ref (G.2.2 1032)), (1, .long xv1), (3, .int xv3)])  (h : wX4_packNumber_2 S x1 x3 k) : W p l e (rmF 0 0) s m args below meth c H locs 0 0 (MQ below (QcI G (injC SB) k) args s 0 0 (AG G)) (F0 m 2 ls []) := by
  have key : ∀ (n : Nat) {H : Heap} {locs : List Loc} {ls : Array Slot} {xv3 : Int32} {x3 : Int}, xv3.toInt = x3 → Wd G ((injC SB) S) H → va_S (AG G) s.heap H locs → lv_has ls 4 [(0, .ref (G.2.2 1032)), (1, .long xv1), (3, .int xv3)] → itP (fun (P : Int → Prop) (a : Int) => wX4_packNumber_2_b S x1 a (fun b0 => P (b0)) k) n (x3) → W p l e (rmF 0 0) s m args below meth c H locs 0 0 (MQ below (QcI G (injC SB) k) args s 0 0 (AG G)) (F0 m 2 ls []) := by
    intro n
    induction n with
    | zero => intro H locs ls xv3 x3 xt3 hw hS hl h; exact h.elim
    | succ n ih =>
      intro H locs ls xv3 x3 xt3 hw hS hl h
      exact uX4_packNumber_2_b C hw hS xt1 xt3 hl  (P2 := fun b0 => itP _ n (b0)) (fun q0 hw hS hl h => ih q0 hw hS hl h) h
  obtain ⟨n, hn⟩ := h
  exact key n xt3 hw hS hl hn
set_option maxHeartbeats 4000000 in
set_option maxRecDepth 10000 in
theorem uX4_packNumber_0 {p : Program} {l : Launch} {e : Env} {s : State} {m : MethodId} {args : Array Value} {below : List Frame} {meth : Method} {c : Code} {G : GG} {SB : St} (C : Cx p s m args meth c G RX4 cX4_packNumber 4 (some .int)) {S : St} {H : Heap} {locs : List Loc} {ls : Array Slot}  {k : Int → St → Prop} (hw : Wd G ((injC SB) S) H) (hS : va_S (AG G) s.heap H locs) {xv1 : Int64} {x1 : Int} (xt1 : xv1.toInt = x1) (hl : lv_has ls 4 [(0, .ref (G.2.2 1032)), (1, .long xv1)])  (h : wX4_packNumber_0 S x1 k) : W p l e (rmF 0 0) s m args below meth c H locs 0 0 (MQ below (QcI G (injC SB) k) args s 0 0 (AG G)) (F0 m 0 ls []) := by
  refine y_iconst C dX4_packNumber_0 ⟨by decide, by decide⟩ (fun v1 t1 => ?_)
  refine lv_istore_n (lv' := [(3, .int v1), (0, .ref (G.2.2 1032)), (1, .long xv1)]) C.1.1 C.1.2.1 dX4_packNumber_1 rfl hl (by decide) rfl (fun ls hl => ?_)
  exact uX4_packNumber_2 C hw hS xt1 t1 (lv_sub hl [1, 2, 0] rfl)  h
theorem kX4_packNumber (l : Launch) (G : GG) (SB S : St) {xv1 : Int64} {x1 : Int} (xt1 : xv1.toInt = x1) {k : Int → St → Prop} (h : wX4_packNumber S x1 k) : CnI l yX4_packNumber cX4_packNumber 4 (some .int) 0 0 G (injC SB) [.ref (G.2.2 1032), .long xv1] S k :=
  cn_body (by decide +kernel) (Nat.le_of_ble_eq_true rfl) (fun p e s m args below meth c ls C hw hl => uX4_packNumber_0 C hw va_S.rf xt1 (lv_sub hl [0, 1] rfl) h)
set_option maxHeartbeats 4000000 in
set_option maxRecDepth 10000 in
theorem uX4_readPack_0 {p : Program} {l : Launch} {e : Env} {s : State} {m : MethodId} {args : Array Value} {below : List Frame} {meth : Method} {c : Code} {G : GG} {SB : St} (C : Cx p s m args meth c G RX4 cX4_readPack 1 (some .boolean)) {S : St} {H : Heap} {locs : List Loc} {ls : Array Slot}  {k : Int → St → Prop} (hw : Wd G ((injC SB) S) H) (hS : va_S (AG G) s.heap H locs)  (hl : lv_has ls 1 [(0, .ref (G.2.2 1032))])  (h : wX4_readPack_0 S k) : W p l e (rmF 3 62) s m args below meth c H locs 0 0 (MQ below (QcI G (injC SB) k) args s 0 0 (AG G)) (F0 m 0 ls []) := by
  refine lv_aload_n C.1.1 C.1.2.1 dX4_readPack_0 rfl (lv_at hl 0 rfl) ?_
  refine y_cVV C (As := []) (rest := []) ml_X4_130 (kX4_advance l G SB S  h) (ock_4 SB) (T := TX4) (N := 15) rfl (by decide) ⟨(Nat.le_of_ble_eq_true rfl), (Nat.le_of_ble_eq_true rfl)⟩ hl.1 rfl rfl (Nat.le_of_ble_eq_true rfl) hw hS dX4_readPack_1 (fun S_1 H locs h hw hS => ?_)
  refine lv_aload_n C.1.1 C.1.2.1 dX4_readPack_4 rfl (lv_at hl 0 rfl) ?_
  refine y_getI C fl_X4_60 hw (ock_4 SB) rfl dX4_readPack_5 (fun v2 t2 => ?_)
  refine y_iconst C dX4_readPack_8 ⟨by decide, by decide⟩ (fun v3 t3 => ?_)
  refine y_icmp_eq C t2 t3 dX4_readPack_9 (tgt := 17) (by decide) (fun c4 => ?_) (fun c4 => ?_)
  · have h := h.1 c4
    refine lv_aload_n C.1.1 C.1.2.1 dX4_readPack_17 rfl (lv_at hl 0 rfl) ?_
    refine lv_aload_n C.1.1 C.1.2.1 dX4_readPack_18 rfl (lv_at hl 0 rfl) ?_
    refine lv_aload_n C.1.1 C.1.2.1 dX4_readPack_19 rfl (lv_at hl 0 rfl) ?_
    refine y_getJ C fl_X4_94 hw (ock_4 SB) rfl dX4_readPack_20 (fun v5 t5 => ?_)
    refine y_cVI C (As := [.long v5]) (rest := [.ref (G.2.2 1032)]) ml_X4_139 (kX4_packNumber l G SB S_1 t5 h) (ock_4 SB) (T := TX4) (N := 15) rfl (by decide) ⟨(Nat.le_of_ble_eq_true rfl), (Nat.le_of_ble_eq_true rfl)⟩ hl.1 rfl rfl (Nat.le_of_ble_eq_true rfl) hw hS dX4_readPack_23 (fun v6 x_6 S_6 H locs t6 h hw hS => ?_)
    obtain ⟨S_7, e7⟩ : ∃ z : St, z = up S_6 1032 9 x_6 := ⟨_, rfl⟩
    have h := h S_7 e7
    refine y_putI C fl_X4_104 fp_4_9 hw hS (ock_4 SB) rfl t6 dX4_readPack_26 (fun H locs hw hS => ?_)
    have hw : Wd G ((injC SB) S_7) H := by rw [e7]; exact hw
    refine lv_aload_n C.1.1 C.1.2.1 dX4_readPack_29 rfl (lv_at hl 0 rfl) ?_
    refine y_cVV C (As := []) (rest := []) ml_X4_130 (kX4_advance l G SB S_7  h) (ock_4 SB) (T := TX4) (N := 15) rfl (by decide) ⟨(Nat.le_of_ble_eq_true rfl), (Nat.le_of_ble_eq_true rfl)⟩ hl.1 rfl rfl (Nat.le_of_ble_eq_true rfl) hw hS dX4_readPack_30 (fun S_8 H locs h hw hS => ?_)
    refine lv_aload_n C.1.1 C.1.2.1 dX4_readPack_33 rfl (lv_at hl 0 rfl) ?_
    refine y_bipush C dX4_readPack_34 ⟨by decide, by decide⟩ (fun v9 t9 => ?_)
    refine y_cVI C (As := [.int v9]) (rest := []) ml_X4_143 (kX4_take l G SB S_8 t9 h) (ock_4 SB) (T := TX4) (N := 15) rfl (by decide) ⟨(Nat.le_of_ble_eq_true rfl), (Nat.le_of_ble_eq_true rfl)⟩ hl.1 rfl rfl (Nat.le_of_ble_eq_true rfl) hw hS dX4_readPack_36 (fun v10 x_10 S_10 H locs t10 h hw hS => ?_)
    obtain ⟨z, h⟩ := h
    exact y_zret C hw hS t10 z h dX4_readPack_39
  · have h := h.2 c4
    refine lv_aload_n C.1.1 C.1.2.1 dX4_readPack_12 rfl (lv_at hl 0 rfl) ?_
    refine y_cVI C (As := []) (rest := []) ml_X4_119 (kX4_misfit l G SB S_1  h) (ock_4 SB) (T := TX4) (N := 15) rfl (by decide) ⟨(Nat.le_of_ble_eq_true rfl), (Nat.le_of_ble_eq_true rfl)⟩ hl.1 rfl rfl (Nat.le_of_ble_eq_true rfl) hw hS dX4_readPack_13 (fun v11 x_11 S_11 H locs t11 h hw hS => ?_)
    obtain ⟨z, h⟩ := h
    exact y_zret C hw hS t11 z h dX4_readPack_16
theorem kX4_readPack (l : Launch) (G : GG) (SB S : St)  {k : Int → St → Prop} (h : wX4_readPack S k) : CnI l yX4_readPack cX4_readPack 1 (some .boolean) 3 62 G (injC SB) [.ref (G.2.2 1032)] S k :=
  cn_body (by decide +kernel) (Nat.le_of_ble_eq_true rfl) (fun p e s m args below meth c ls C hw hl => uX4_readPack_0 C hw va_S.rf  (lv_sub hl [0] rfl) h)
set_option maxHeartbeats 4000000 in
set_option maxRecDepth 10000 in
theorem uX4_readLoader_23 {p : Program} {l : Launch} {e : Env} {s : State} {m : MethodId} {args : Array Value} {below : List Frame} {meth : Method} {c : Code} {G : GG} {SB : St} (C : Cx p s m args meth c G RX4 cX4_readLoader 1 (some .boolean)) {S : St} {H : Heap} {locs : List Loc} {ls : Array Slot}  {k : Int → St → Prop} (hw : Wd G ((injC SB) S) H) (hS : va_S (AG G) s.heap H locs)  (hl : lv_has ls 1 [(0, .ref (G.2.2 1032))])  (h : wX4_readLoader_23 S k) : W p l e (rmF 3 62) s m args below meth c H locs 0 0 (MQ below (QcI G (injC SB) k) args s 0 0 (AG G)) (F0 m 23 ls []) := by
  refine lv_aload_n C.1.1 C.1.2.1 dX4_readLoader_23 rfl (lv_at hl 0 rfl) ?_
  refine y_cVI C (As := []) (rest := []) ml_X4_119 (kX4_misfit l G SB S  h) (ock_4 SB) (T := TX4) (N := 15) rfl (by decide) ⟨(Nat.le_of_ble_eq_true rfl), (Nat.le_of_ble_eq_true rfl)⟩ hl.1 rfl rfl (Nat.le_of_ble_eq_true rfl) hw hS dX4_readLoader_24 (fun v1 x_1 S_1 H locs t1 h hw hS => ?_)
  obtain ⟨z, h⟩ := h
  exact y_zret C hw hS t1 z h dX4_readLoader_27
set_option maxHeartbeats 4000000 in
set_option maxRecDepth 10000 in
theorem uX4_readLoader_0 {p : Program} {l : Launch} {e : Env} {s : State} {m : MethodId} {args : Array Value} {below : List Frame} {meth : Method} {c : Code} {G : GG} {SB : St} (C : Cx p s m args meth c G RX4 cX4_readLoader 1 (some .boolean)) {S : St} {H : Heap} {locs : List Loc} {ls : Array Slot}  {k : Int → St → Prop} (hw : Wd G ((injC SB) S) H) (hS : va_S (AG G) s.heap H locs)  (hl : lv_has ls 1 [(0, .ref (G.2.2 1032))])  (h : wX4_readLoader_0 S k) : W p l e (rmF 3 62) s m args below meth c H locs 0 0 (MQ below (QcI G (injC SB) k) args s 0 0 (AG G)) (F0 m 0 ls []) := by
  refine lv_aload_n C.1.1 C.1.2.1 dX4_readLoader_0 rfl (lv_at hl 0 rfl) ?_
  refine y_cVV C (As := []) (rest := []) ml_X4_130 (kX4_advance l G SB S  h) (ock_4 SB) (T := TX4) (N := 15) rfl (by decide) ⟨(Nat.le_of_ble_eq_true rfl), (Nat.le_of_ble_eq_true rfl)⟩ hl.1 rfl rfl (Nat.le_of_ble_eq_true rfl) hw hS dX4_readLoader_1 (fun S_1 H locs h hw hS => ?_)
  refine lv_aload_n C.1.1 C.1.2.1 dX4_readLoader_4 rfl (lv_at hl 0 rfl) ?_
  refine y_getI C fl_X4_60 hw (ock_4 SB) rfl dX4_readLoader_5 (fun v2 t2 => ?_)
  refine y_iconst C dX4_readLoader_8 ⟨by decide, by decide⟩ (fun v3 t3 => ?_)
  refine y_icmp_ne C t2 t3 dX4_readLoader_9 (tgt := 23) (by decide) (fun c4 => ?_) (fun c4 => ?_)
  · have h := h.1 c4
    exact uX4_readLoader_23 C hw hS  (lv_sub hl [0] rfl)  h
  · have h := h.2 c4
    refine lv_aload_n C.1.1 C.1.2.1 dX4_readLoader_12 rfl (lv_at hl 0 rfl) ?_
    refine y_getJ C fl_X4_94 hw (ock_4 SB) rfl dX4_readLoader_13 (fun v5 t5 => ?_)
    refine y_ldc2 C dX4_readLoader_16 (N := 2) (by decide) (cl_X4_149) (fun v6 t6 => ?_)
    refine y_lcmp C t5 t6 dX4_readLoader_19 (fun v7 t7 => ?_)
    refine y_if_le C t7 dX4_readLoader_20 (tgt := 28) (by decide) (fun c8 => ?_) (fun c8 => ?_)
    · have c8 := cmp_le.mp c8
      have h := h.1 c8
      refine lv_aload_n C.1.1 C.1.2.1 dX4_readLoader_28 rfl (lv_at hl 0 rfl) ?_
      refine lv_aload_n C.1.1 C.1.2.1 dX4_readLoader_29 rfl (lv_at hl 0 rfl) ?_
      refine y_getJ C fl_X4_94 hw (ock_4 SB) rfl dX4_readLoader_30 (fun v9 t9 => ?_)
      refine y_l2i C t9 dX4_readLoader_33 (fun v10 t10 => ?_)
      obtain ⟨S_11, e11⟩ : ∃ z : St, z = up S_1 1032 10 (w32 (S_1 1032 6)) := ⟨_, rfl⟩
      have h := h S_11 e11
      refine y_putI C fl_X4_107 fp_4_10 hw hS (ock_4 SB) rfl t10 dX4_readLoader_34 (fun H locs hw hS => ?_)
      have hw : Wd G ((injC SB) S_11) H := by rw [e11]; exact hw
      refine lv_aload_n C.1.1 C.1.2.1 dX4_readLoader_37 rfl (lv_at hl 0 rfl) ?_
      refine y_cVV C (As := []) (rest := []) ml_X4_130 (kX4_advance l G SB S_11  h) (ock_4 SB) (T := TX4) (N := 15) rfl (by decide) ⟨(Nat.le_of_ble_eq_true rfl), (Nat.le_of_ble_eq_true rfl)⟩ hl.1 rfl rfl (Nat.le_of_ble_eq_true rfl) hw hS dX4_readLoader_38 (fun S_12 H locs h hw hS => ?_)
      refine lv_aload_n C.1.1 C.1.2.1 dX4_readLoader_41 rfl (lv_at hl 0 rfl) ?_
      refine y_bipush C dX4_readLoader_42 ⟨by decide, by decide⟩ (fun v13 t13 => ?_)
      refine y_cVI C (As := [.int v13]) (rest := []) ml_X4_143 (kX4_take l G SB S_12 t13 h) (ock_4 SB) (T := TX4) (N := 15) rfl (by decide) ⟨(Nat.le_of_ble_eq_true rfl), (Nat.le_of_ble_eq_true rfl)⟩ hl.1 rfl rfl (Nat.le_of_ble_eq_true rfl) hw hS dX4_readLoader_44 (fun v14 x_14 S_14 H locs t14 h hw hS => ?_)
      obtain ⟨z, h⟩ := h
      exact y_zret C hw hS t14 z h dX4_readLoader_47
    · have c8 := cmp_gt.mp c8
      have h := h.2 c8
      exact uX4_readLoader_23 C hw hS  (lv_sub hl [0] rfl)  h
theorem kX4_readLoader (l : Launch) (G : GG) (SB S : St)  {k : Int → St → Prop} (h : wX4_readLoader S k) : CnI l yX4_readLoader cX4_readLoader 1 (some .boolean) 3 62 G (injC SB) [.ref (G.2.2 1032)] S k :=
  cn_body (by decide +kernel) (Nat.le_of_ble_eq_true rfl) (fun p e s m args below meth c ls C hw hl => uX4_readLoader_0 C hw va_S.rf  (lv_sub hl [0] rfl) h)
set_option maxHeartbeats 4000000 in
set_option maxRecDepth 10000 in
theorem uX4_readTypeName_15_b {p : Program} {l : Launch} {e : Env} {s : State} {m : MethodId} {args : Array Value} {below : List Frame} {meth : Method} {c : Code} {G : GG} {SB : St} (C : Cx p s m args meth c G RX4 cX4_readTypeName 2 (some .boolean)) {S : St} {H : Heap} {locs : List Loc} {ls : Array Slot}  {P15 : Int → Prop} {k : Int → St → Prop} (hw : Wd G ((injC SB) S) H) (hS : va_S (AG G) s.heap H locs) {xv1 : Int32} {x1 : Int} (xt1 : xv1.toInt = x1) (hl : lv_has ls 2 [(0, .ref (G.2.2 1032)), (1, .int xv1)])  (hP15 : ∀ {H : Heap} {locs : List Loc} {ls : Array Slot} {yv1 : Int32} {y1 : Int}, yv1.toInt = y1 → Wd G ((injC SB) S) H → va_S (AG G) s.heap H locs → lv_has ls 2 [(0, .ref (G.2.2 1032)), (1, .int yv1)] → P15 y1 → W p l e (rmF 2 41) s m args below meth c H locs 0 0 (MQ below (QcI G (injC SB) k) args s 0 0 (AG G)) (F0 m 15 ls [])) (h : wX4_readTypeName_15_b S x1 P15 k) : W p l e (rmF 2 41) s m args below meth c H locs 0 0 (MQ below (QcI G (injC SB) k) args s 0 0 (AG G)) (F0 m 15 ls []) := by
  refine lv_iload_n C.1.1 C.1.2.1 dX4_readTypeName_15 rfl (lv_at hl 1 rfl) ?_
  refine lv_aload_n C.1.1 C.1.2.1 dX4_readTypeName_16 rfl (lv_at hl 0 rfl) ?_
  obtain ⟨x_1, e1⟩ : ∃ z : Int, z = S 1032 3 := ⟨_, rfl⟩
  obtain ⟨o1, h⟩ := h x_1 e1
  refine y_getO C fl_X4_19 hw (ock_4 SB) rfl e1 o1 dX4_readTypeName_17 ?_
  refine y_getI C fl_X4_151 hw (oc_of SB o1) rfl dX4_readTypeName_20 (fun v2 t2 => ?_)
  refine y_icmp_ge C xt1 t2 dX4_readTypeName_23 (tgt := 58) (by decide) (fun c3 => ?_) (fun c3 => ?_)
  · have h := h.1 c3
    refine lv_aload_n C.1.1 C.1.2.1 dX4_readTypeName_58 rfl (lv_at hl 0 rfl) ?_
    obtain ⟨x_4, e4⟩ : ∃ z : Int, z = S 1032 12 := ⟨_, rfl⟩
    obtain ⟨o4, h⟩ := h x_4 e4
    refine y_getO C fl_X4_38 hw (ock_4 SB) rfl e4 o4 dX4_readTypeName_59 ?_
    refine lv_aload_n C.1.1 C.1.2.1 dX4_readTypeName_62 rfl (lv_at hl 0 rfl) ?_
    refine y_getJ C fl_X4_94 hw (ock_4 SB) rfl dX4_readTypeName_63 (fun v5 t5 => ?_)
    obtain ⟨S_6, e6⟩ : ∃ z : St, z = up S x_4 1 (S 1032 6) := ⟨_, rfl⟩
    have h := h S_6 e6
    refine y_putJ C fl_X4_165 fp_6_1 hw hS (oc_of SB o4) rfl t5 dX4_readTypeName_66 (fun H locs hw hS => ?_)
    have hw : Wd G ((injC SB) S_6) H := by rw [e6]; exact hw
    refine lv_aload_n C.1.1 C.1.2.1 dX4_readTypeName_69 rfl (lv_at hl 0 rfl) ?_
    obtain ⟨x_7, e7⟩ : ∃ z : Int, z = S_6 1032 3 := ⟨_, rfl⟩
    obtain ⟨o7, h⟩ := h x_7 e7
    refine y_getO C fl_X4_19 hw (ock_4 SB) rfl e7 o7 dX4_readTypeName_70 ?_
    refine lv_dup C.1.1 C.1.2.1 dX4_readTypeName_73 rfl ?_
    refine y_getI C fl_X4_151 hw (oc_of SB o7) rfl dX4_readTypeName_74 (fun v8 t8 => ?_)
    refine y_iconst C dX4_readTypeName_77 ⟨by decide, by decide⟩ (fun v9 t9 => ?_)
    refine y_iadd C t8 t9 dX4_readTypeName_78 (fun v10 t10 => ?_)
    obtain ⟨S_11, e11⟩ : ∃ z : St, z = up S_6 x_7 1 (w32 (S_6 x_7 1 + 1)) := ⟨_, rfl⟩
    have h := h S_11 e11
    refine y_putI C fl_X4_151 fp_2_1 hw hS (oc_of SB o7) rfl t10 dX4_readTypeName_79 (fun H locs hw hS => ?_)
    have hw : Wd G ((injC SB) S_11) H := by rw [e11]; exact hw
    refine lv_aload_n C.1.1 C.1.2.1 dX4_readTypeName_82 rfl (lv_at hl 0 rfl) ?_
    refine y_iconst C dX4_readTypeName_83 ⟨by decide, by decide⟩ (fun v12 t12 => ?_)
    obtain ⟨S_13, e13⟩ : ∃ z : St, z = up S_11 1032 11 1 := ⟨_, rfl⟩
    have h := h S_13 e13
    refine y_putI C fl_X4_56 fp_4_11 hw hS (ock_4 SB) rfl t12 dX4_readTypeName_84 (fun H locs hw hS => ?_)
    have hw : Wd G ((injC SB) S_13) H := by rw [e13]; exact hw
    refine lv_aload_n C.1.1 C.1.2.1 dX4_readTypeName_87 rfl (lv_at hl 0 rfl) ?_
    refine y_cVV C (As := []) (rest := []) ml_X4_130 (kX4_advance l G SB S_13  h) (ock_4 SB) (T := TX4) (N := 15) rfl (by decide) ⟨(Nat.le_of_ble_eq_true rfl), (Nat.le_of_ble_eq_true rfl)⟩ hl.1 rfl rfl (Nat.le_of_ble_eq_true rfl) hw hS dX4_readTypeName_88 (fun S_14 H locs h hw hS => ?_)
    refine y_iconst C dX4_readTypeName_91 ⟨by decide, by decide⟩ (fun v15 t15 => ?_)
    exact y_zret C hw hS t15 (Or.inr rfl) h dX4_readTypeName_92
  · have h := h.2 c3
    refine lv_aload_n C.1.1 C.1.2.1 dX4_readTypeName_26 rfl (lv_at hl 0 rfl) ?_
    obtain ⟨x_16, e16⟩ : ∃ z : Int, z = S 1032 3 := ⟨_, rfl⟩
    obtain ⟨o16, h⟩ := h x_16 e16
    refine y_getO C fl_X4_19 hw (ock_4 SB) rfl e16 o16 dX4_readTypeName_27 ?_
    refine y_getA C fl_X4_32 hw (oc_of SB o16) rfl (o := 1) rfl dX4_readTypeName_30 ?_
    refine lv_iload_n C.1.1 C.1.2.1 dX4_readTypeName_33 rfl (lv_at hl 1 rfl) ?_
    obtain ⟨b18, h⟩ := h
    obtain ⟨x_18, e18⟩ : ∃ z : Int, z = x_16 + 6 + 6 * x1 := ⟨_, rfl⟩
    have h := h x_18 e18
    have o18 : isO 6 x_18 := isO_ty o16 b18 e18
    refine y_tyO C hw o16 xt1 b18 e18 dX4_readTypeName_34 ?_
    refine y_getJ C fl_X4_165 hw (oc_of SB o18) rfl dX4_readTypeName_35 (fun v19 t19 => ?_)
    refine lv_aload_n C.1.1 C.1.2.1 dX4_readTypeName_38 rfl (lv_at hl 0 rfl) ?_
    refine y_getJ C fl_X4_94 hw (ock_4 SB) rfl dX4_readTypeName_39 (fun v20 t20 => ?_)
    refine y_lcmp C t19 t20 dX4_readTypeName_42 (fun v21 t21 => ?_)
    refine y_if_ne C t21 dX4_readTypeName_43 (tgt := 52) (by decide) (fun c22 => ?_) (fun c22 => ?_)
    · have c22 := cmp_ne.mp c22
      have h := h.1 c22
      obtain ⟨x_23, e23⟩ : ∃ z : Int, z = w32 (x1 + 1) := ⟨_, rfl⟩
      have h := h x_23 e23
      obtain ⟨v23, t23, g23⟩ : ∃ z : Int32, z.toInt = x_23 ∧ xv1 + Int32.ofInt 1 = z := ⟨_, (ti_inc xt1 ⟨by decide, by decide⟩).trans e23.symm, rfl⟩
      refine lv_iinc (v := v23) (lv' := [(1, .int v23), (0, .ref (G.2.2 1032))]) C.1.1 C.1.2.1 dX4_readTypeName_52 hl (k := 1) rfl g23 (by decide) rfl (fun ls hl => ?_)
      refine lv_goto (tgt := 15) C.1.1 C.1.2.1 dX4_readTypeName_55 (by decide) ?_
      exact hP15 t23 hw hS (lv_sub hl [1, 0] rfl) h
    · have c22 := cmp_eq.mp c22
      have h := h.2 c22
      refine lv_aload_n C.1.1 C.1.2.1 dX4_readTypeName_46 rfl (lv_at hl 0 rfl) ?_
      refine y_iconst C dX4_readTypeName_47 ⟨by decide, by decide⟩ (fun v24 t24 => ?_)
      refine y_cVI C (As := [.int v24]) (rest := []) ml_X4_126 (kX4_fail l G SB S t24 h) (ock_4 SB) (T := TX4) (N := 15) rfl (by decide) ⟨(Nat.le_of_ble_eq_true rfl), (Nat.le_of_ble_eq_true rfl)⟩ hl.1 rfl rfl (Nat.le_of_ble_eq_true rfl) hw hS dX4_readTypeName_48 (fun v25 x_25 S_25 H locs t25 h hw hS => ?_)
      obtain ⟨z, h⟩ := h
      exact y_zret C hw hS t25 z h dX4_readTypeName_51
set_option maxHeartbeats 4000000 in
set_option maxRecDepth 10000 in
theorem uX4_readTypeName_15 {p : Program} {l : Launch} {e : Env} {s : State} {m : MethodId} {args : Array Value} {below : List Frame} {meth : Method} {c : Code} {G : GG} {SB : St} (C : Cx p s m args meth c G RX4 cX4_readTypeName 2 (some .boolean)) {S : St} {H : Heap} {locs : List Loc} {ls : Array Slot}  {k : Int → St → Prop} (hw : Wd G ((injC SB) S) H) (hS : va_S (AG G) s.heap H locs) {xv1 : Int32} {x1 : Int} (xt1 : xv1.toInt = x1) (hl : lv_has ls 2 [(0, .ref (G.2.2 1032)), (1, .int xv1)])  (h : wX4_readTypeName_15 S x1 k) : W p l e (rmF 2 41) s m args below meth c H locs 0 0 (MQ below (QcI G (injC SB) k) args s 0 0 (AG G)) (F0 m 15 ls []) := by
  have key : ∀ (n : Nat) {H : Heap} {locs : List Loc} {ls : Array Slot} {xv1 : Int32} {x1 : Int}, xv1.toInt = x1 → Wd G ((injC SB) S) H → va_S (AG G) s.heap H locs → lv_has ls 2 [(0, .ref (G.2.2 1032)), (1, .int xv1)] → itP (fun (P : Int → Prop) (a : Int) => wX4_readTypeName_15_b S a (fun b0 => P (b0)) k) n (x1) → W p l e (rmF 2 41) s m args below meth c H locs 0 0 (MQ below (QcI G (injC SB) k) args s 0 0 (AG G)) (F0 m 15 ls []) := by
    intro n
    induction n with
    | zero => intro H locs ls xv1 x1 xt1 hw hS hl h; exact h.elim
    | succ n ih =>
      intro H locs ls xv1 x1 xt1 hw hS hl h
      exact uX4_readTypeName_15_b C hw hS xt1 hl  (P15 := fun b0 => itP _ n (b0)) (fun q0 hw hS hl h => ih q0 hw hS hl h) h
  obtain ⟨n, hn⟩ := h
  exact key n xt1 hw hS hl hn
set_option maxHeartbeats 4000000 in
set_option maxRecDepth 10000 in
theorem uX4_readTypeName_0 {p : Program} {l : Launch} {e : Env} {s : State} {m : MethodId} {args : Array Value} {below : List Frame} {meth : Method} {c : Code} {G : GG} {SB : St} (C : Cx p s m args meth c G RX4 cX4_readTypeName 2 (some .boolean)) {S : St} {H : Heap} {locs : List Loc} {ls : Array Slot}  {k : Int → St → Prop} (hw : Wd G ((injC SB) S) H) (hS : va_S (AG G) s.heap H locs)  (hl : lv_has ls 2 [(0, .ref (G.2.2 1032))])  (h : wX4_readTypeName_0 S k) : W p l e (rmF 2 41) s m args below meth c H locs 0 0 (MQ below (QcI G (injC SB) k) args s 0 0 (AG G)) (F0 m 0 ls []) := by
  refine lv_aload_n C.1.1 C.1.2.1 dX4_readTypeName_0 rfl (lv_at hl 0 rfl) ?_
  refine y_getI C fl_X4_60 hw (ock_4 SB) rfl dX4_readTypeName_1 (fun v1 t1 => ?_)
  refine y_iconst C dX4_readTypeName_4 ⟨by decide, by decide⟩ (fun v2 t2 => ?_)
  refine y_icmp_eq C t1 t2 dX4_readTypeName_5 (tgt := 13) (by decide) (fun c3 => ?_) (fun c3 => ?_)
  · have h := h.1 c3
    refine y_iconst C dX4_readTypeName_13 ⟨by decide, by decide⟩ (fun v4 t4 => ?_)
    refine lv_istore_n (lv' := [(1, .int v4), (0, .ref (G.2.2 1032))]) C.1.1 C.1.2.1 dX4_readTypeName_14 rfl hl (by decide) rfl (fun ls hl => ?_)
    exact uX4_readTypeName_15 C hw hS t4 (lv_sub hl [1, 0] rfl)  h
  · have h := h.2 c3
    refine lv_aload_n C.1.1 C.1.2.1 dX4_readTypeName_8 rfl (lv_at hl 0 rfl) ?_
    refine y_cVI C (As := []) (rest := []) ml_X4_119 (kX4_misfit l G SB S  h) (ock_4 SB) (T := TX4) (N := 15) rfl (by decide) ⟨(Nat.le_of_ble_eq_true rfl), (Nat.le_of_ble_eq_true rfl)⟩ hl.1 rfl rfl (Nat.le_of_ble_eq_true rfl) hw hS dX4_readTypeName_9 (fun v5 x_5 S_5 H locs t5 h hw hS => ?_)
    obtain ⟨z, h⟩ := h
    exact y_zret C hw hS t5 z h dX4_readTypeName_12
theorem kX4_readTypeName (l : Launch) (G : GG) (SB S : St)  {k : Int → St → Prop} (h : wX4_readTypeName S k) : CnI l yX4_readTypeName cX4_readTypeName 2 (some .boolean) 2 41 G (injC SB) [.ref (G.2.2 1032)] S k :=
  cn_body (by decide +kernel) (Nat.le_of_ble_eq_true rfl) (fun p e s m args below meth c ls C hw hl => uX4_readTypeName_0 C hw va_S.rf  (lv_sub hl [0] rfl) h)
set_option maxHeartbeats 4000000 in
set_option maxRecDepth 10000 in
theorem uX4_readType_112 {p : Program} {l : Launch} {e : Env} {s : State} {m : MethodId} {args : Array Value} {below : List Frame} {meth : Method} {c : Code} {G : GG} {SB : St} (C : Cx p s m args meth c G RX4 cX4_readType 2 (some .boolean)) {S : St} {H : Heap} {locs : List Loc} {ls : Array Slot}  {k : Int → St → Prop} (hw : Wd G ((injC SB) S) H) (hS : va_S (AG G) s.heap H locs)  (hl : lv_has ls 2 [(0, .ref (G.2.2 1032))])  (h : wX4_readType_112 S k) : W p l e (rmF 3 62) s m args below meth c H locs 0 0 (MQ below (QcI G (injC SB) k) args s 0 0 (AG G)) (F0 m 112 ls []) := by
  refine lv_aload_n C.1.1 C.1.2.1 dX4_readType_112 rfl (lv_at hl 0 rfl) ?_
  refine y_cVI C (As := []) (rest := []) ml_X4_162 (kX4_readTypeName l G SB S  h) (ock_4 SB) (T := TX4) (N := 15) rfl (by decide) ⟨(Nat.le_of_ble_eq_true rfl), (Nat.le_of_ble_eq_true rfl)⟩ hl.1 rfl rfl (Nat.le_of_ble_eq_true rfl) hw hS dX4_readType_113 (fun v1 x_1 S_1 H locs t1 h hw hS => ?_)
  obtain ⟨z, h⟩ := h
  exact y_zret C hw hS t1 z h dX4_readType_116
set_option maxHeartbeats 4000000 in
set_option maxRecDepth 10000 in
theorem uX4_readType_67 {p : Program} {l : Launch} {e : Env} {s : State} {m : MethodId} {args : Array Value} {below : List Frame} {meth : Method} {c : Code} {G : GG} {SB : St} (C : Cx p s m args meth c G RX4 cX4_readType 2 (some .boolean)) {S : St} {H : Heap} {locs : List Loc} {ls : Array Slot}  {k : Int → St → Prop} (hw : Wd G ((injC SB) S) H) (hS : va_S (AG G) s.heap H locs) {sv0 : Int32} {s0 : Int} (st0 : sv0.toInt = s0) (hl : lv_has ls 2 [(0, .ref (G.2.2 1032))])  (h : wX4_readType_67 S s0 k) : W p l e (rmF 3 62) s m args below meth c H locs 0 0 (MQ below (QcI G (injC SB) k) args s 0 0 (AG G)) (F0 m 67 ls [.int sv0]) := by
  refine lv_istore_n (lv' := [(1, .int sv0), (0, .ref (G.2.2 1032))]) C.1.1 C.1.2.1 dX4_readType_67 rfl hl (by decide) rfl (fun ls hl => ?_)
  refine lv_aload_n C.1.1 C.1.2.1 dX4_readType_68 rfl (lv_at hl 1 rfl) ?_
  obtain ⟨x_1, e1⟩ : ∃ z : Int, z = S 1032 12 := ⟨_, rfl⟩
  obtain ⟨o1, h⟩ := h x_1 e1
  refine y_getO C fl_X4_38 hw (ock_4 SB) rfl e1 o1 dX4_readType_69 ?_
  refine lv_iload_n C.1.1 C.1.2.1 dX4_readType_72 rfl (lv_at hl 0 rfl) ?_
  refine lv_aload_n C.1.1 C.1.2.1 dX4_readType_73 rfl (lv_at hl 1 rfl) ?_
  refine y_getI C fl_X4_104 hw (ock_4 SB) rfl dX4_readType_74 (fun v2 t2 => ?_)
  refine lv_aload_n C.1.1 C.1.2.1 dX4_readType_77 rfl (lv_at hl 1 rfl) ?_
  refine y_getI C fl_X4_107 hw (ock_4 SB) rfl dX4_readType_78 (fun v3 t3 => ?_)
  refine lv_aload_n C.1.1 C.1.2.1 dX4_readType_81 rfl (lv_at hl 1 rfl) ?_
  obtain ⟨x_4, e4⟩ : ∃ z : Int, z = S 1032 3 := ⟨_, rfl⟩
  obtain ⟨o4, h⟩ := h x_4 e4
  refine y_getO C fl_X4_19 hw (ock_4 SB) rfl e4 o4 dX4_readType_82 ?_
  refine y_getI C fl_X4_154 hw (oc_of SB o4) rfl dX4_readType_85 (fun v5 t5 => ?_)
  refine y_cVV C (As := [.int sv0, .int v2, .int v3, .int v5]) (rest := []) ml_X4_157 (kX6_clear l G SB S o1 st0 t2 t3 t5 h) (oc_of SB o1) (T := TX6) (N := 20) rfl (by decide) ⟨(Nat.le_of_ble_eq_true rfl), (Nat.le_of_ble_eq_true rfl)⟩ hl.1 rfl rfl (Nat.le_of_ble_eq_true rfl) hw hS dX4_readType_88 (fun S_6 H locs h hw hS => ?_)
  refine lv_aload_n C.1.1 C.1.2.1 dX4_readType_91 rfl (lv_at hl 1 rfl) ?_
  refine y_cVV C (As := []) (rest := []) ml_X4_130 (kX4_advance l G SB S_6  h) (ock_4 SB) (T := TX4) (N := 15) rfl (by decide) ⟨(Nat.le_of_ble_eq_true rfl), (Nat.le_of_ble_eq_true rfl)⟩ hl.1 rfl rfl (Nat.le_of_ble_eq_true rfl) hw hS dX4_readType_92 (fun S_7 H locs h hw hS => ?_)
  refine lv_iload_n C.1.1 C.1.2.1 dX4_readType_95 rfl (lv_at hl 0 rfl) ?_
  refine y_iconst C dX4_readType_96 ⟨by decide, by decide⟩ (fun v8 t8 => ?_)
  refine y_icmp_ne C st0 t8 dX4_readType_97 (tgt := 112) (by decide) (fun c9 => ?_) (fun c9 => ?_)
  · have h := h.1 c9
    exact uX4_readType_112 C hw hS  (lv_sub hl [1] rfl)  h
  · have h := h.2 c9
    refine lv_aload_n C.1.1 C.1.2.1 dX4_readType_100 rfl (lv_at hl 1 rfl) ?_
    refine y_sipush C dX4_readType_101 ⟨by decide, by decide⟩ (fun v10 t10 => ?_)
    refine y_cVI C (As := [.int v10]) (rest := []) ml_X4_143 (kX4_take l G SB S_7 t10 h) (ock_4 SB) (T := TX4) (N := 15) rfl (by decide) ⟨(Nat.le_of_ble_eq_true rfl), (Nat.le_of_ble_eq_true rfl)⟩ hl.1 rfl rfl (Nat.le_of_ble_eq_true rfl) hw hS dX4_readType_104 (fun v11 x_11 S_11 H locs t11 h hw hS => ?_)
    refine y_if_ne C t11 dX4_readType_107 (tgt := 112) (by decide) (fun c12 => ?_) (fun c12 => ?_)
    · have h := h.1 c12
      exact uX4_readType_112 C hw hS  (lv_sub hl [1] rfl)  h
    · have h := h.2 c12
      refine y_iconst C dX4_readType_110 ⟨by decide, by decide⟩ (fun v13 t13 => ?_)
      exact y_zret C hw hS t13 (Or.inl rfl) h dX4_readType_111
set_option maxHeartbeats 4000000 in
set_option maxRecDepth 10000 in
theorem uX4_readType_0 {p : Program} {l : Launch} {e : Env} {s : State} {m : MethodId} {args : Array Value} {below : List Frame} {meth : Method} {c : Code} {G : GG} {SB : St} (C : Cx p s m args meth c G RX4 cX4_readType 2 (some .boolean)) {S : St} {H : Heap} {locs : List Loc} {ls : Array Slot}  {k : Int → St → Prop} (hw : Wd G ((injC SB) S) H) (hS : va_S (AG G) s.heap H locs)  (hl : lv_has ls 2 [(0, .ref (G.2.2 1032))])  (h : wX4_readType_0 S k) : W p l e (rmF 3 62) s m args below meth c H locs 0 0 (MQ below (QcI G (injC SB) k) args s 0 0 (AG G)) (F0 m 0 ls []) := by
  refine lv_aload_n C.1.1 C.1.2.1 dX4_readType_0 rfl (lv_at hl 0 rfl) ?_
  obtain ⟨x_1, e1⟩ : ∃ z : Int, z = S 1032 3 := ⟨_, rfl⟩
  obtain ⟨o1, h⟩ := h x_1 e1
  refine y_getO C fl_X4_19 hw (ock_4 SB) rfl e1 o1 dX4_readType_1 ?_
  refine y_getI C fl_X4_151 hw (oc_of SB o1) rfl dX4_readType_4 (fun v2 t2 => ?_)
  refine y_bipush C dX4_readType_7 ⟨by decide, by decide⟩ (fun v3 t3 => ?_)
  refine y_icmp_lt C t2 t3 dX4_readType_9 (tgt := 19) (by decide) (fun c4 => ?_) (fun c4 => ?_)
  · have h := h.1 c4
    refine lv_aload_n C.1.1 C.1.2.1 dX4_readType_19 rfl (lv_at hl 0 rfl) ?_
    refine lv_aload_n C.1.1 C.1.2.1 dX4_readType_20 rfl (lv_at hl 0 rfl) ?_
    obtain ⟨x_5, e5⟩ : ∃ z : Int, z = S 1032 3 := ⟨_, rfl⟩
    obtain ⟨o5, h⟩ := h x_5 e5
    refine y_getO C fl_X4_19 hw (ock_4 SB) rfl e5 o5 dX4_readType_21 ?_
    refine y_getA C fl_X4_32 hw (oc_of SB o5) rfl (o := 1) rfl dX4_readType_24 ?_
    refine lv_aload_n C.1.1 C.1.2.1 dX4_readType_27 rfl (lv_at hl 0 rfl) ?_
    obtain ⟨x_7, e7⟩ : ∃ z : Int, z = S 1032 3 := ⟨_, rfl⟩
    obtain ⟨o7, h⟩ := h x_7 e7
    refine y_getO C fl_X4_19 hw (ock_4 SB) rfl e7 o7 dX4_readType_28 ?_
    refine y_getI C fl_X4_151 hw (oc_of SB o7) rfl dX4_readType_31 (fun v8 t8 => ?_)
    obtain ⟨b9, h⟩ := h
    obtain ⟨x_9, e9⟩ : ∃ z : Int, z = x_5 + 6 + 6 * (S x_7 1) := ⟨_, rfl⟩
    have h := h x_9 e9
    have o9 : isO 6 x_9 := isO_ty o5 b9 e9
    refine y_tyO C hw o5 t8 b9 e9 dX4_readType_34 ?_
    obtain ⟨S_10, e10⟩ : ∃ z : St, z = up S 1032 12 x_9 := ⟨_, rfl⟩
    have h := h S_10 e10
    refine y_putR C fl_X4_38 fp_4_12 hw hS (ock_4 SB) rfl o9.1 dX4_readType_35 (fun H locs hw hS => ?_)
    have hw : Wd G ((injC SB) S_10) H := by rw [e10]; exact hw
    refine lv_aload_n C.1.1 C.1.2.1 dX4_readType_38 rfl (lv_at hl 0 rfl) ?_
    refine y_getI C fl_X4_60 hw (ock_4 SB) rfl dX4_readType_39 (fun v11 t11 => ?_)
    refine y_sipush C dX4_readType_42 ⟨by decide, by decide⟩ (fun v12 t12 => ?_)
    refine y_icmp_ne C t11 t12 dX4_readType_45 (tgt := 52) (by decide) (fun c13 => ?_) (fun c13 => ?_)
    · have h := h.1 c13
      refine lv_aload_n C.1.1 C.1.2.1 dX4_readType_52 rfl (lv_at hl 0 rfl) ?_
      refine y_getI C fl_X4_60 hw (ock_4 SB) rfl dX4_readType_53 (fun v14 t14 => ?_)
      refine y_sipush C dX4_readType_56 ⟨by decide, by decide⟩ (fun v15 t15 => ?_)
      refine y_icmp_ne C t14 t15 dX4_readType_59 (tgt := 66) (by decide) (fun c16 => ?_) (fun c16 => ?_)
      · have h := h.1 c16
        refine y_iconst C dX4_readType_66 ⟨by decide, by decide⟩ (fun v17 t17 => ?_)
        exact uX4_readType_67 C hw hS t17 (lv_sub hl [0] rfl)  h
      · have h := h.2 c16
        refine y_iconst C dX4_readType_62 ⟨by decide, by decide⟩ (fun v18 t18 => ?_)
        refine lv_goto (tgt := 67) C.1.1 C.1.2.1 dX4_readType_63 (by decide) ?_
        exact uX4_readType_67 C hw hS t18 (lv_sub hl [0] rfl)  h
    · have h := h.2 c13
      refine y_iconst C dX4_readType_48 ⟨by decide, by decide⟩ (fun v19 t19 => ?_)
      refine lv_goto (tgt := 67) C.1.1 C.1.2.1 dX4_readType_49 (by decide) ?_
      exact uX4_readType_67 C hw hS t19 (lv_sub hl [0] rfl)  h
  · have h := h.2 c4
    refine lv_aload_n C.1.1 C.1.2.1 dX4_readType_12 rfl (lv_at hl 0 rfl) ?_
    refine y_bipush C dX4_readType_13 ⟨by decide, by decide⟩ (fun v20 t20 => ?_)
    refine y_cVI C (As := [.int v20]) (rest := []) ml_X4_126 (kX4_fail l G SB S t20 h) (ock_4 SB) (T := TX4) (N := 15) rfl (by decide) ⟨(Nat.le_of_ble_eq_true rfl), (Nat.le_of_ble_eq_true rfl)⟩ hl.1 rfl rfl (Nat.le_of_ble_eq_true rfl) hw hS dX4_readType_15 (fun v21 x_21 S_21 H locs t21 h hw hS => ?_)
    obtain ⟨z, h⟩ := h
    exact y_zret C hw hS t21 z h dX4_readType_18
theorem kX4_readType (l : Launch) (G : GG) (SB S : St)  {k : Int → St → Prop} (h : wX4_readType S k) : CnI l yX4_readType cX4_readType 2 (some .boolean) 3 62 G (injC SB) [.ref (G.2.2 1032)] S k :=
  cn_body (by decide +kernel) (Nat.le_of_ble_eq_true rfl) (fun p e s m args below meth c ls C hw hl => uX4_readType_0 C hw va_S.rf  (lv_sub hl [0] rfl) h)
set_option maxHeartbeats 4000000 in
set_option maxRecDepth 10000 in
theorem uX4_readItem_0 {p : Program} {l : Launch} {e : Env} {s : State} {m : MethodId} {args : Array Value} {below : List Frame} {meth : Method} {c : Code} {G : GG} {SB : St} (C : Cx p s m args meth c G RX4 cX4_readItem 1 (some .boolean)) {S : St} {H : Heap} {locs : List Loc} {ls : Array Slot}  {k : Int → St → Prop} (hw : Wd G ((injC SB) S) H) (hS : va_S (AG G) s.heap H locs)  (hl : lv_has ls 1 [(0, .ref (G.2.2 1032))])  (h : wX4_readItem_0 S k) : W p l e (rmF 4 83) s m args below meth c H locs 0 0 (MQ below (QcI G (injC SB) k) args s 0 0 (AG G)) (F0 m 0 ls []) := by
  refine lv_aload_n C.1.1 C.1.2.1 dX4_readItem_0 rfl (lv_at hl 0 rfl) ?_
  refine y_getI C fl_X4_60 hw (ock_4 SB) rfl dX4_readItem_1 (fun v1 t1 => ?_)
  by_cases c2_0 : S 1032 5 = 200
  · have h := h.1 c2_0
    refine y_tabIn C t1 c2_0 dX4_readItem_4 (by decide) (by decide) (off := 60) (by decide +kernel) (tgt := 64) (by decide) ?_
    refine lv_aload_n C.1.1 C.1.2.1 dX4_readItem_64 rfl (lv_at hl 0 rfl) ?_
    refine y_cVI C (As := []) (rest := []) ml_X4_110 (kX4_readPack l G SB S  h) (ock_4 SB) (T := TX4) (N := 15) rfl (by decide) ⟨(Nat.le_of_ble_eq_true rfl), (Nat.le_of_ble_eq_true rfl)⟩ hl.1 rfl rfl (Nat.le_of_ble_eq_true rfl) hw hS dX4_readItem_65 (fun v3 x_3 S_3 H locs t3 h hw hS => ?_)
    obtain ⟨z, h⟩ := h
    exact y_zret C hw hS t3 z h dX4_readItem_68
  have h := h.2
  by_cases c2_1 : S 1032 5 = 201
  · have h := h.1 c2_1
    refine y_tabIn C t1 c2_1 dX4_readItem_4 (by decide) (by decide) (off := 65) (by decide +kernel) (tgt := 69) (by decide) ?_
    refine lv_aload_n C.1.1 C.1.2.1 dX4_readItem_69 rfl (lv_at hl 0 rfl) ?_
    refine y_cVI C (As := []) (rest := []) ml_X4_113 (kX4_readLoader l G SB S  h) (ock_4 SB) (T := TX4) (N := 15) rfl (by decide) ⟨(Nat.le_of_ble_eq_true rfl), (Nat.le_of_ble_eq_true rfl)⟩ hl.1 rfl rfl (Nat.le_of_ble_eq_true rfl) hw hS dX4_readItem_70 (fun v4 x_4 S_4 H locs t4 h hw hS => ?_)
    obtain ⟨z, h⟩ := h
    exact y_zret C hw hS t4 z h dX4_readItem_73
  have h := h.2
  by_cases c2_2 : S 1032 5 = 202
  · have h := h.1 c2_2
    refine y_tabIn C t1 c2_2 dX4_readItem_4 (by decide) (by decide) (off := 70) (by decide +kernel) (tgt := 74) (by decide) ?_
    refine lv_aload_n C.1.1 C.1.2.1 dX4_readItem_74 rfl (lv_at hl 0 rfl) ?_
    refine y_cVI C (As := []) (rest := []) ml_X4_116 (kX4_readType l G SB S  h) (ock_4 SB) (T := TX4) (N := 15) rfl (by decide) ⟨(Nat.le_of_ble_eq_true rfl), (Nat.le_of_ble_eq_true rfl)⟩ hl.1 rfl rfl (Nat.le_of_ble_eq_true rfl) hw hS dX4_readItem_75 (fun v5 x_5 S_5 H locs t5 h hw hS => ?_)
    obtain ⟨z, h⟩ := h
    exact y_zret C hw hS t5 z h dX4_readItem_78
  have h := h.2
  by_cases c2_3 : S 1032 5 = 203
  · have h := h.1 c2_3
    refine y_tabIn C t1 c2_3 dX4_readItem_4 (by decide) (by decide) (off := 70) (by decide +kernel) (tgt := 74) (by decide) ?_
    refine lv_aload_n C.1.1 C.1.2.1 dX4_readItem_74 rfl (lv_at hl 0 rfl) ?_
    refine y_cVI C (As := []) (rest := []) ml_X4_116 (kX4_readType l G SB S  h) (ock_4 SB) (T := TX4) (N := 15) rfl (by decide) ⟨(Nat.le_of_ble_eq_true rfl), (Nat.le_of_ble_eq_true rfl)⟩ hl.1 rfl rfl (Nat.le_of_ble_eq_true rfl) hw hS dX4_readItem_75 (fun v6 x_6 S_6 H locs t6 h hw hS => ?_)
    obtain ⟨z, h⟩ := h
    exact y_zret C hw hS t6 z h dX4_readItem_78
  have h := h.2
  by_cases c2_4 : S 1032 5 = 204
  · have h := h.1 c2_4
    refine y_tabIn C t1 c2_4 dX4_readItem_4 (by decide) (by decide) (off := 75) (by decide +kernel) (tgt := 79) (by decide) ?_
    refine lv_aload_n C.1.1 C.1.2.1 dX4_readItem_79 rfl (lv_at hl 0 rfl) ?_
    refine y_cVI C (As := []) (rest := []) ml_X4_119 (kX4_misfit l G SB S  h) (ock_4 SB) (T := TX4) (N := 15) rfl (by decide) ⟨(Nat.le_of_ble_eq_true rfl), (Nat.le_of_ble_eq_true rfl)⟩ hl.1 rfl rfl (Nat.le_of_ble_eq_true rfl) hw hS dX4_readItem_80 (fun v7 x_7 S_7 H locs t7 h hw hS => ?_)
    obtain ⟨z, h⟩ := h
    exact y_zret C hw hS t7 z h dX4_readItem_83
  have h := h.2
  by_cases c2_5 : S 1032 5 = 205
  · have h := h.1 c2_5
    refine y_tabIn C t1 c2_5 dX4_readItem_4 (by decide) (by decide) (off := 75) (by decide +kernel) (tgt := 79) (by decide) ?_
    refine lv_aload_n C.1.1 C.1.2.1 dX4_readItem_79 rfl (lv_at hl 0 rfl) ?_
    refine y_cVI C (As := []) (rest := []) ml_X4_119 (kX4_misfit l G SB S  h) (ock_4 SB) (T := TX4) (N := 15) rfl (by decide) ⟨(Nat.le_of_ble_eq_true rfl), (Nat.le_of_ble_eq_true rfl)⟩ hl.1 rfl rfl (Nat.le_of_ble_eq_true rfl) hw hS dX4_readItem_80 (fun v8 x_8 S_8 H locs t8 h hw hS => ?_)
    obtain ⟨z, h⟩ := h
    exact y_zret C hw hS t8 z h dX4_readItem_83
  have h := h.2
  by_cases c2_6 : S 1032 5 = 206
  · have h := h.1 c2_6
    refine y_tabIn C t1 c2_6 dX4_readItem_4 (by decide) (by decide) (off := 75) (by decide +kernel) (tgt := 79) (by decide) ?_
    refine lv_aload_n C.1.1 C.1.2.1 dX4_readItem_79 rfl (lv_at hl 0 rfl) ?_
    refine y_cVI C (As := []) (rest := []) ml_X4_119 (kX4_misfit l G SB S  h) (ock_4 SB) (T := TX4) (N := 15) rfl (by decide) ⟨(Nat.le_of_ble_eq_true rfl), (Nat.le_of_ble_eq_true rfl)⟩ hl.1 rfl rfl (Nat.le_of_ble_eq_true rfl) hw hS dX4_readItem_80 (fun v9 x_9 S_9 H locs t9 h hw hS => ?_)
    obtain ⟨z, h⟩ := h
    exact y_zret C hw hS t9 z h dX4_readItem_83
  have h := h.2
  by_cases c2_7 : S 1032 5 = 207
  · have h := h.1 c2_7
    refine y_tabIn C t1 c2_7 dX4_readItem_4 (by decide) (by decide) (off := 75) (by decide +kernel) (tgt := 79) (by decide) ?_
    refine lv_aload_n C.1.1 C.1.2.1 dX4_readItem_79 rfl (lv_at hl 0 rfl) ?_
    refine y_cVI C (As := []) (rest := []) ml_X4_119 (kX4_misfit l G SB S  h) (ock_4 SB) (T := TX4) (N := 15) rfl (by decide) ⟨(Nat.le_of_ble_eq_true rfl), (Nat.le_of_ble_eq_true rfl)⟩ hl.1 rfl rfl (Nat.le_of_ble_eq_true rfl) hw hS dX4_readItem_80 (fun v10 x_10 S_10 H locs t10 h hw hS => ?_)
    obtain ⟨z, h⟩ := h
    exact y_zret C hw hS t10 z h dX4_readItem_83
  have h := h.2
  by_cases c2_8 : S 1032 5 = 208
  · have h := h.1 c2_8
    refine y_tabIn C t1 c2_8 dX4_readItem_4 (by decide) (by decide) (off := 75) (by decide +kernel) (tgt := 79) (by decide) ?_
    refine lv_aload_n C.1.1 C.1.2.1 dX4_readItem_79 rfl (lv_at hl 0 rfl) ?_
    refine y_cVI C (As := []) (rest := []) ml_X4_119 (kX4_misfit l G SB S  h) (ock_4 SB) (T := TX4) (N := 15) rfl (by decide) ⟨(Nat.le_of_ble_eq_true rfl), (Nat.le_of_ble_eq_true rfl)⟩ hl.1 rfl rfl (Nat.le_of_ble_eq_true rfl) hw hS dX4_readItem_80 (fun v11 x_11 S_11 H locs t11 h hw hS => ?_)
    obtain ⟨z, h⟩ := h
    exact y_zret C hw hS t11 z h dX4_readItem_83
  have h := h.2
  by_cases c2_9 : S 1032 5 = 209
  · have h := h.1 c2_9
    refine y_tabIn C t1 c2_9 dX4_readItem_4 (by decide) (by decide) (off := 75) (by decide +kernel) (tgt := 79) (by decide) ?_
    refine lv_aload_n C.1.1 C.1.2.1 dX4_readItem_79 rfl (lv_at hl 0 rfl) ?_
    refine y_cVI C (As := []) (rest := []) ml_X4_119 (kX4_misfit l G SB S  h) (ock_4 SB) (T := TX4) (N := 15) rfl (by decide) ⟨(Nat.le_of_ble_eq_true rfl), (Nat.le_of_ble_eq_true rfl)⟩ hl.1 rfl rfl (Nat.le_of_ble_eq_true rfl) hw hS dX4_readItem_80 (fun v12 x_12 S_12 H locs t12 h hw hS => ?_)
    obtain ⟨z, h⟩ := h
    exact y_zret C hw hS t12 z h dX4_readItem_83
  have h := h.2
  by_cases c2_10 : S 1032 5 = 210
  · have h := h.1 c2_10
    refine y_tabIn C t1 c2_10 dX4_readItem_4 (by decide) (by decide) (off := 70) (by decide +kernel) (tgt := 74) (by decide) ?_
    refine lv_aload_n C.1.1 C.1.2.1 dX4_readItem_74 rfl (lv_at hl 0 rfl) ?_
    refine y_cVI C (As := []) (rest := []) ml_X4_116 (kX4_readType l G SB S  h) (ock_4 SB) (T := TX4) (N := 15) rfl (by decide) ⟨(Nat.le_of_ble_eq_true rfl), (Nat.le_of_ble_eq_true rfl)⟩ hl.1 rfl rfl (Nat.le_of_ble_eq_true rfl) hw hS dX4_readItem_75 (fun v13 x_13 S_13 H locs t13 h hw hS => ?_)
    obtain ⟨z, h⟩ := h
    exact y_zret C hw hS t13 z h dX4_readItem_78
  have h := h.2
  have c2 := sw_200_210 c2_0 c2_1 c2_2 c2_3 c2_4 c2_5 c2_6 c2_7 c2_8 c2_9 c2_10
  have h := h c2
  refine y_tabOut C t1 c2 dX4_readItem_4 (tgt := 79) (by decide) ?_
  refine lv_aload_n C.1.1 C.1.2.1 dX4_readItem_79 rfl (lv_at hl 0 rfl) ?_
  refine y_cVI C (As := []) (rest := []) ml_X4_119 (kX4_misfit l G SB S  h) (ock_4 SB) (T := TX4) (N := 15) rfl (by decide) ⟨(Nat.le_of_ble_eq_true rfl), (Nat.le_of_ble_eq_true rfl)⟩ hl.1 rfl rfl (Nat.le_of_ble_eq_true rfl) hw hS dX4_readItem_80 (fun v14 x_14 S_14 H locs t14 h hw hS => ?_)
  obtain ⟨z, h⟩ := h
  exact y_zret C hw hS t14 z h dX4_readItem_83
theorem kX4_readItem (l : Launch) (G : GG) (SB S : St)  {k : Int → St → Prop} (h : wX4_readItem S k) : CnI l yX4_readItem cX4_readItem 1 (some .boolean) 4 83 G (injC SB) [.ref (G.2.2 1032)] S k :=
  cn_body (by decide +kernel) (Nat.le_of_ble_eq_true rfl) (fun p e s m args below meth c ls C hw hl => uX4_readItem_0 C hw va_S.rf  (lv_sub hl [0] rfl) h)
set_option maxHeartbeats 4000000 in
set_option maxRecDepth 10000 in
theorem uX4_read_102 {p : Program} {l : Launch} {e : Env} {s : State} {m : MethodId} {args : Array Value} {below : List Frame} {meth : Method} {c : Code} {G : GG} {SB : St} (C : Cx p s m args meth c G RX4 cX4_read 4 (some .boolean)) {S : St} {H : Heap} {locs : List Loc} {ls : Array Slot} {P20 : Int → Int → St → Prop} {k : Int → St → Prop} (hw : Wd G ((injC SB) S) H) (hS : va_S (AG G) s.heap H locs) {xv3 : Int32} {x3 : Int} (xt3 : xv3.toInt = x3) (hl : lv_has ls 4 [(0, .ref (G.2.2 1032)), (3, .int xv3)]) (hP20 : ∀ {H : Heap} {locs : List Loc} {ls : Array Slot} {Sy : St} {yv2 : Int32} {y2 : Int} {yv3 : Int32} {y3 : Int}, yv2.toInt = y2 → yv3.toInt = y3 → Wd G ((injC SB) Sy) H → va_S (AG G) s.heap H locs → lv_has ls 4 [(0, .ref (G.2.2 1032)), (2, .int yv2), (3, .int yv3)] → P20 y2 y3 Sy → W p l e (rmF 6 138) s m args below meth c H locs 0 0 (MQ below (QcI G (injC SB) k) args s 0 0 (AG G)) (F0 m 20 ls [])) (h : wX4_read_102 S x3 P20 k) : W p l e (rmF 6 138) s m args below meth c H locs 0 0 (MQ below (QcI G (injC SB) k) args s 0 0 (AG G)) (F0 m 102 ls []) := by
  refine y_iconst C dX4_read_102 ⟨by decide, by decide⟩ (fun v1 t1 => ?_)
  refine lv_istore_n (lv' := [(2, .int v1), (0, .ref (G.2.2 1032)), (3, .int xv3)]) C.1.1 C.1.2.1 dX4_read_103 rfl hl (by decide) rfl (fun ls hl => ?_)
  refine lv_goto (tgt := 136) C.1.1 C.1.2.1 dX4_read_104 (by decide) ?_
  obtain ⟨x_2, e2⟩ : ∃ z : Int, z = w32 (x3 + 1) := ⟨_, rfl⟩
  have h := h x_2 e2
  obtain ⟨v2, t2, g2⟩ : ∃ z : Int32, z.toInt = x_2 ∧ xv3 + Int32.ofInt 1 = z := ⟨_, (ti_inc xt3 ⟨by decide, by decide⟩).trans e2.symm, rfl⟩
  refine lv_iinc (v := v2) (lv' := [(3, .int v2), (2, .int v1), (0, .ref (G.2.2 1032))]) C.1.1 C.1.2.1 dX4_read_136 hl (k := 2) rfl g2 (by decide) rfl (fun ls hl => ?_)
  refine lv_goto (tgt := 20) C.1.1 C.1.2.1 dX4_read_139 (by decide) ?_
  exact hP20 t1 t2 hw hS (lv_sub hl [2, 1, 0] rfl) h
set_option maxHeartbeats 4000000 in
set_option maxRecDepth 10000 in
theorem uX4_read_47 {p : Program} {l : Launch} {e : Env} {s : State} {m : MethodId} {args : Array Value} {below : List Frame} {meth : Method} {c : Code} {G : GG} {SB : St} (C : Cx p s m args meth c G RX4 cX4_read 4 (some .boolean)) {S : St} {H : Heap} {locs : List Loc} {ls : Array Slot} {P20 : Int → Int → St → Prop} {k : Int → St → Prop} (hw : Wd G ((injC SB) S) H) (hS : va_S (AG G) s.heap H locs) {xv3 : Int32} {x3 : Int} (xt3 : xv3.toInt = x3) (hl : lv_has ls 4 [(0, .ref (G.2.2 1032)), (3, .int xv3)]) (hP20 : ∀ {H : Heap} {locs : List Loc} {ls : Array Slot} {Sy : St} {yv2 : Int32} {y2 : Int} {yv3 : Int32} {y3 : Int}, yv2.toInt = y2 → yv3.toInt = y3 → Wd G ((injC SB) Sy) H → va_S (AG G) s.heap H locs → lv_has ls 4 [(0, .ref (G.2.2 1032)), (2, .int yv2), (3, .int yv3)] → P20 y2 y3 Sy → W p l e (rmF 6 138) s m args below meth c H locs 0 0 (MQ below (QcI G (injC SB) k) args s 0 0 (AG G)) (F0 m 20 ls [])) (h : wX4_read_47 S x3 P20 k) : W p l e (rmF 6 138) s m args below meth c H locs 0 0 (MQ below (QcI G (injC SB) k) args s 0 0 (AG G)) (F0 m 47 ls []) := by
  refine lv_aload_n C.1.1 C.1.2.1 dX4_read_47 rfl (lv_at hl 0 rfl) ?_
  refine y_getI C fl_X4_56 hw (ock_4 SB) rfl dX4_read_48 (fun v1 t1 => ?_)
  by_cases c2_0 : S 1032 11 = 1
  · have h := h.1 c2_0
    refine y_tabIn C t1 c2_0 dX4_read_51 (by decide) (by decide) (off := 25) (by decide +kernel) (tgt := 76) (by decide) ?_
    refine lv_aload_n C.1.1 C.1.2.1 dX4_read_76 rfl (lv_at hl 0 rfl) ?_
    refine y_cVI C (As := []) (rest := []) ml_X4_63 (kX4_readHead l G SB S  h) (ock_4 SB) (T := TX4) (N := 15) rfl (by decide) ⟨(Nat.le_of_ble_eq_true rfl), (Nat.le_of_ble_eq_true rfl)⟩ hl.1 rfl rfl (Nat.le_of_ble_eq_true rfl) hw hS dX4_read_77 (fun v3 x_3 S_3 H locs t3 h hw hS => ?_)
    refine lv_istore_n (lv' := [(2, .int v3), (0, .ref (G.2.2 1032)), (3, .int xv3)]) C.1.1 C.1.2.1 dX4_read_80 rfl hl (by decide) rfl (fun ls hl => ?_)
    refine lv_goto (tgt := 136) C.1.1 C.1.2.1 dX4_read_81 (by decide) ?_
    obtain ⟨x_4, e4⟩ : ∃ z : Int, z = w32 (x3 + 1) := ⟨_, rfl⟩
    have h := h x_4 e4
    obtain ⟨v4, t4, g4⟩ : ∃ z : Int32, z.toInt = x_4 ∧ xv3 + Int32.ofInt 1 = z := ⟨_, (ti_inc xt3 ⟨by decide, by decide⟩).trans e4.symm, rfl⟩
    refine lv_iinc (v := v4) (lv' := [(3, .int v4), (2, .int v3), (0, .ref (G.2.2 1032))]) C.1.1 C.1.2.1 dX4_read_136 hl (k := 2) rfl g4 (by decide) rfl (fun ls hl => ?_)
    refine lv_goto (tgt := 20) C.1.1 C.1.2.1 dX4_read_139 (by decide) ?_
    exact hP20 t3 t4 hw hS (lv_sub hl [2, 1, 0] rfl) h
  have h := h.2
  by_cases c2_1 : S 1032 11 = 2
  · have h := h.1 c2_1
    refine y_tabIn C t1 c2_1 dX4_read_51 (by decide) (by decide) (off := 33) (by decide +kernel) (tgt := 84) (by decide) ?_
    refine lv_aload_n C.1.1 C.1.2.1 dX4_read_84 rfl (lv_at hl 0 rfl) ?_
    refine y_cVI C (As := []) (rest := []) ml_X4_67 (kX4_readRef l G SB S  h) (ock_4 SB) (T := TX4) (N := 15) rfl (by decide) ⟨(Nat.le_of_ble_eq_true rfl), (Nat.le_of_ble_eq_true rfl)⟩ hl.1 rfl rfl (Nat.le_of_ble_eq_true rfl) hw hS dX4_read_85 (fun v5 x_5 S_5 H locs t5 h hw hS => ?_)
    refine y_if_eq C t5 dX4_read_88 (tgt := 102) (by decide) (fun c6 => ?_) (fun c6 => ?_)
    · have h := h.1 c6
      exact uX4_read_102 C hw hS xt3 (lv_sub hl [0, 1] rfl) hP20 h
    · have h := h.2 c6
      refine lv_aload_n C.1.1 C.1.2.1 dX4_read_91 rfl (lv_at hl 0 rfl) ?_
      refine y_cVI C (As := []) (rest := []) ml_X4_70 (kX4_readArguments l G SB S_5  h) (ock_4 SB) (T := TX4) (N := 15) rfl (by decide) ⟨(Nat.le_of_ble_eq_true rfl), (Nat.le_of_ble_eq_true rfl)⟩ hl.1 rfl rfl (Nat.le_of_ble_eq_true rfl) hw hS dX4_read_92 (fun v7 x_7 S_7 H locs t7 h hw hS => ?_)
      refine y_if_eq C t7 dX4_read_95 (tgt := 102) (by decide) (fun c8 => ?_) (fun c8 => ?_)
      · have h := h.1 c8
        exact uX4_read_102 C hw hS xt3 (lv_sub hl [0, 1] rfl) hP20 h
      · have h := h.2 c8
        refine y_iconst C dX4_read_98 ⟨by decide, by decide⟩ (fun v9 t9 => ?_)
        refine lv_goto (tgt := 103) C.1.1 C.1.2.1 dX4_read_99 (by decide) ?_
        refine lv_istore_n (lv' := [(2, .int v9), (0, .ref (G.2.2 1032)), (3, .int xv3)]) C.1.1 C.1.2.1 dX4_read_103 rfl hl (by decide) rfl (fun ls hl => ?_)
        refine lv_goto (tgt := 136) C.1.1 C.1.2.1 dX4_read_104 (by decide) ?_
        obtain ⟨x_10, e10⟩ : ∃ z : Int, z = w32 (x3 + 1) := ⟨_, rfl⟩
        have h := h x_10 e10
        obtain ⟨v10, t10, g10⟩ : ∃ z : Int32, z.toInt = x_10 ∧ xv3 + Int32.ofInt 1 = z := ⟨_, (ti_inc xt3 ⟨by decide, by decide⟩).trans e10.symm, rfl⟩
        refine lv_iinc (v := v10) (lv' := [(3, .int v10), (2, .int v9), (0, .ref (G.2.2 1032))]) C.1.1 C.1.2.1 dX4_read_136 hl (k := 2) rfl g10 (by decide) rfl (fun ls hl => ?_)
        refine lv_goto (tgt := 20) C.1.1 C.1.2.1 dX4_read_139 (by decide) ?_
        exact hP20 t9 t10 hw hS (lv_sub hl [2, 1, 0] rfl) h
  have h := h.2
  by_cases c2_2 : S 1032 11 = 3
  · have h := h.1 c2_2
    refine y_tabIn C t1 c2_2 dX4_read_51 (by decide) (by decide) (off := 56) (by decide +kernel) (tgt := 107) (by decide) ?_
    refine lv_aload_n C.1.1 C.1.2.1 dX4_read_107 rfl (lv_at hl 0 rfl) ?_
    refine y_getI C fl_X4_60 hw (ock_4 SB) rfl dX4_read_108 (fun v11 t11 => ?_)
    refine y_bipush C dX4_read_111 ⟨by decide, by decide⟩ (fun v12 t12 => ?_)
    refine y_icmp_ne C t11 t12 dX4_read_113 (tgt := 123) (by decide) (fun c13 => ?_) (fun c13 => ?_)
    · have h := h.1 c13
      refine lv_aload_n C.1.1 C.1.2.1 dX4_read_123 rfl (lv_at hl 0 rfl) ?_
      refine y_cVI C (As := []) (rest := []) ml_X4_76 (kX4_readMember l G SB S  h) (ock_4 SB) (T := TX4) (N := 15) rfl (by decide) ⟨(Nat.le_of_ble_eq_true rfl), (Nat.le_of_ble_eq_true rfl)⟩ hl.1 rfl rfl (Nat.le_of_ble_eq_true rfl) hw hS dX4_read_124 (fun v14 x_14 S_14 H locs t14 h hw hS => ?_)
      refine lv_istore_n (lv' := [(2, .int v14), (0, .ref (G.2.2 1032)), (3, .int xv3)]) C.1.1 C.1.2.1 dX4_read_127 rfl hl (by decide) rfl (fun ls hl => ?_)
      refine lv_goto (tgt := 136) C.1.1 C.1.2.1 dX4_read_128 (by decide) ?_
      obtain ⟨x_15, e15⟩ : ∃ z : Int, z = w32 (x3 + 1) := ⟨_, rfl⟩
      have h := h x_15 e15
      obtain ⟨v15, t15, g15⟩ : ∃ z : Int32, z.toInt = x_15 ∧ xv3 + Int32.ofInt 1 = z := ⟨_, (ti_inc xt3 ⟨by decide, by decide⟩).trans e15.symm, rfl⟩
      refine lv_iinc (v := v15) (lv' := [(3, .int v15), (2, .int v14), (0, .ref (G.2.2 1032))]) C.1.1 C.1.2.1 dX4_read_136 hl (k := 2) rfl g15 (by decide) rfl (fun ls hl => ?_)
      refine lv_goto (tgt := 20) C.1.1 C.1.2.1 dX4_read_139 (by decide) ?_
      exact hP20 t14 t15 hw hS (lv_sub hl [2, 1, 0] rfl) h
    · have h := h.2 c13
      refine lv_aload_n C.1.1 C.1.2.1 dX4_read_116 rfl (lv_at hl 0 rfl) ?_
      refine y_cVI C (As := []) (rest := []) ml_X4_73 (kX4_closeType l G SB S  h) (ock_4 SB) (T := TX4) (N := 15) rfl (by decide) ⟨(Nat.le_of_ble_eq_true rfl), (Nat.le_of_ble_eq_true rfl)⟩ hl.1 rfl rfl (Nat.le_of_ble_eq_true rfl) hw hS dX4_read_117 (fun v16 x_16 S_16 H locs t16 h hw hS => ?_)
      refine lv_goto (tgt := 127) C.1.1 C.1.2.1 dX4_read_120 (by decide) ?_
      refine lv_istore_n (lv' := [(2, .int v16), (0, .ref (G.2.2 1032)), (3, .int xv3)]) C.1.1 C.1.2.1 dX4_read_127 rfl hl (by decide) rfl (fun ls hl => ?_)
      refine lv_goto (tgt := 136) C.1.1 C.1.2.1 dX4_read_128 (by decide) ?_
      obtain ⟨x_17, e17⟩ : ∃ z : Int, z = w32 (x3 + 1) := ⟨_, rfl⟩
      have h := h x_17 e17
      obtain ⟨v17, t17, g17⟩ : ∃ z : Int32, z.toInt = x_17 ∧ xv3 + Int32.ofInt 1 = z := ⟨_, (ti_inc xt3 ⟨by decide, by decide⟩).trans e17.symm, rfl⟩
      refine lv_iinc (v := v17) (lv' := [(3, .int v17), (2, .int v16), (0, .ref (G.2.2 1032))]) C.1.1 C.1.2.1 dX4_read_136 hl (k := 2) rfl g17 (by decide) rfl (fun ls hl => ?_)
      refine lv_goto (tgt := 20) C.1.1 C.1.2.1 dX4_read_139 (by decide) ?_
      exact hP20 t16 t17 hw hS (lv_sub hl [2, 1, 0] rfl) h
  have h := h.2
  have c2 := sw_1_3 c2_0 c2_1 c2_2
  have h := h c2
  refine y_tabOut C t1 c2 dX4_read_51 (tgt := 131) (by decide) ?_
  refine lv_aload_n C.1.1 C.1.2.1 dX4_read_131 rfl (lv_at hl 0 rfl) ?_
  refine y_cVI C (As := []) (rest := []) ml_X4_79 (kX4_readItem l G SB S  h) (ock_4 SB) (T := TX4) (N := 15) rfl (by decide) ⟨(Nat.le_of_ble_eq_true rfl), (Nat.le_of_ble_eq_true rfl)⟩ hl.1 rfl rfl (Nat.le_of_ble_eq_true rfl) hw hS dX4_read_132 (fun v18 x_18 S_18 H locs t18 h hw hS => ?_)
  refine lv_istore_n (lv' := [(2, .int v18), (0, .ref (G.2.2 1032)), (3, .int xv3)]) C.1.1 C.1.2.1 dX4_read_135 rfl hl (by decide) rfl (fun ls hl => ?_)
  obtain ⟨x_19, e19⟩ : ∃ z : Int, z = w32 (x3 + 1) := ⟨_, rfl⟩
  have h := h x_19 e19
  obtain ⟨v19, t19, g19⟩ : ∃ z : Int32, z.toInt = x_19 ∧ xv3 + Int32.ofInt 1 = z := ⟨_, (ti_inc xt3 ⟨by decide, by decide⟩).trans e19.symm, rfl⟩
  refine lv_iinc (v := v19) (lv' := [(3, .int v19), (2, .int v18), (0, .ref (G.2.2 1032))]) C.1.1 C.1.2.1 dX4_read_136 hl (k := 2) rfl g19 (by decide) rfl (fun ls hl => ?_)
  refine lv_goto (tgt := 20) C.1.1 C.1.2.1 dX4_read_139 (by decide) ?_
  exact hP20 t18 t19 hw hS (lv_sub hl [2, 1, 0] rfl) h
set_option maxHeartbeats 4000000 in
set_option maxRecDepth 10000 in
theorem uX4_read_20_b {p : Program} {l : Launch} {e : Env} {s : State} {m : MethodId} {args : Array Value} {below : List Frame} {meth : Method} {c : Code} {G : GG} {SB : St} (C : Cx p s m args meth c G RX4 cX4_read 4 (some .boolean)) {S : St} {H : Heap} {locs : List Loc} {ls : Array Slot}  {P20 : Int → Int → St → Prop} {k : Int → St → Prop} (hw : Wd G ((injC SB) S) H) (hS : va_S (AG G) s.heap H locs) {xv2 : Int32} {x2 : Int} (xt2 : xv2.toInt = x2) {xv3 : Int32} {x3 : Int} (xt3 : xv3.toInt = x3) (hl : lv_has ls 4 [(0, .ref (G.2.2 1032)), (2, .int xv2), (3, .int xv3)])  (hP20 : ∀ {H : Heap} {locs : List Loc} {ls : Array Slot} {Sy : St} {yv2 : Int32} {y2 : Int} {yv3 : Int32} {y3 : Int}, yv2.toInt = y2 → yv3.toInt = y3 → Wd G ((injC SB) Sy) H → va_S (AG G) s.heap H locs → lv_has ls 4 [(0, .ref (G.2.2 1032)), (2, .int yv2), (3, .int yv3)] → P20 y2 y3 Sy → W p l e (rmF 6 138) s m args below meth c H locs 0 0 (MQ below (QcI G (injC SB) k) args s 0 0 (AG G)) (F0 m 20 ls [])) (h : wX4_read_20_b S x2 x3 P20 k) : W p l e (rmF 6 138) s m args below meth c H locs 0 0 (MQ below (QcI G (injC SB) k) args s 0 0 (AG G)) (F0 m 20 ls []) := by
  refine lv_iload_n C.1.1 C.1.2.1 dX4_read_20 rfl (lv_at hl 2 rfl) ?_
  refine y_sipush C dX4_read_21 ⟨by decide, by decide⟩ (fun v1 t1 => ?_)
  refine y_icmp_gt C xt3 t1 dX4_read_24 (tgt := 142) (by decide) (fun c2 => ?_) (fun c2 => ?_)
  · have h := h.1 c2
    refine y_iconst C dX4_read_142 ⟨by decide, by decide⟩ (fun v3 t3 => ?_)
    exact y_zret C hw hS t3 (Or.inl rfl) h dX4_read_143
  · have h := h.2 c2
    refine lv_iload_n C.1.1 C.1.2.1 dX4_read_27 rfl (lv_at hl 1 rfl) ?_
    refine y_if_eq C xt2 dX4_read_28 (tgt := 142) (by decide) (fun c4 => ?_) (fun c4 => ?_)
    · have h := h.1 c4
      refine y_iconst C dX4_read_142 ⟨by decide, by decide⟩ (fun v5 t5 => ?_)
      exact y_zret C hw hS t5 (Or.inl rfl) h dX4_read_143
    · have h := h.2 c4
      refine lv_aload_n C.1.1 C.1.2.1 dX4_read_31 rfl (lv_at hl 0 rfl) ?_
      refine y_getI C fl_X4_56 hw (ock_4 SB) rfl dX4_read_32 (fun v6 t6 => ?_)
      refine y_if_ne C t6 dX4_read_35 (tgt := 47) (by decide) (fun c7 => ?_) (fun c7 => ?_)
      · have h := h.1 c7
        exact uX4_read_47 C hw hS xt3 (lv_sub hl [0, 2] rfl) hP20 h
      · have h := h.2 c7
        refine lv_aload_n C.1.1 C.1.2.1 dX4_read_38 rfl (lv_at hl 0 rfl) ?_
        refine y_getI C fl_X4_60 hw (ock_4 SB) rfl dX4_read_39 (fun v8 t8 => ?_)
        refine y_if_ne C t8 dX4_read_42 (tgt := 47) (by decide) (fun c9 => ?_) (fun c9 => ?_)
        · have h := h.1 c9
          exact uX4_read_47 C hw hS xt3 (lv_sub hl [0, 2] rfl) hP20 h
        · have h := h.2 c9
          refine y_iconst C dX4_read_45 ⟨by decide, by decide⟩ (fun v10 t10 => ?_)
          exact y_zret C hw hS t10 (Or.inr rfl) h dX4_read_46
set_option maxHeartbeats 4000000 in
set_option maxRecDepth 10000 in
theorem uX4_read_20 {p : Program} {l : Launch} {e : Env} {s : State} {m : MethodId} {args : Array Value} {below : List Frame} {meth : Method} {c : Code} {G : GG} {SB : St} (C : Cx p s m args meth c G RX4 cX4_read 4 (some .boolean)) {S : St} {H : Heap} {locs : List Loc} {ls : Array Slot}  {k : Int → St → Prop} (hw : Wd G ((injC SB) S) H) (hS : va_S (AG G) s.heap H locs) {xv2 : Int32} {x2 : Int} (xt2 : xv2.toInt = x2) {xv3 : Int32} {x3 : Int} (xt3 : xv3.toInt = x3) (hl : lv_has ls 4 [(0, .ref (G.2.2 1032)), (2, .int xv2), (3, .int xv3)])  (h : wX4_read_20 S x2 x3 k) : W p l e (rmF 6 138) s m args below meth c H locs 0 0 (MQ below (QcI G (injC SB) k) args s 0 0 (AG G)) (F0 m 20 ls []) := by
  have key : ∀ (n : Nat) {H : Heap} {locs : List Loc} {ls : Array Slot} {S : St} {xv2 : Int32} {x2 : Int} {xv3 : Int32} {x3 : Int}, xv2.toInt = x2 → xv3.toInt = x3 → Wd G ((injC SB) S) H → va_S (AG G) s.heap H locs → lv_has ls 4 [(0, .ref (G.2.2 1032)), (2, .int xv2), (3, .int xv3)] → itP (fun (P : Int × Int × St → Prop) (a : Int × Int × St) => wX4_read_20_b a.2.2 a.1 a.2.1 (fun b0 b1 b2 => P (b0, b1, b2)) k) n (x2, x3, S) → W p l e (rmF 6 138) s m args below meth c H locs 0 0 (MQ below (QcI G (injC SB) k) args s 0 0 (AG G)) (F0 m 20 ls []) := by
    intro n
    induction n with
    | zero => intro H locs ls S xv2 x2 xv3 x3 xt2 xt3 hw hS hl h; exact h.elim
    | succ n ih =>
      intro H locs ls S xv2 x2 xv3 x3 xt2 xt3 hw hS hl h
      exact uX4_read_20_b C hw hS xt2 xt3 hl  (P20 := fun b0 b1 b2 => itP _ n (b0, b1, b2)) (fun q0 q1 hw hS hl h => ih q0 q1 hw hS hl h) h
  obtain ⟨n, hn⟩ := h
  exact key n xt2 xt3 hw hS hl hn
set_option maxHeartbeats 4000000 in
set_option maxRecDepth 10000 in
theorem uX4_read_0 {p : Program} {l : Launch} {e : Env} {s : State} {m : MethodId} {args : Array Value} {below : List Frame} {meth : Method} {c : Code} {G : GG} {SB : St} (C : Cx p s m args meth c G RX4 cX4_read 4 (some .boolean)) {S : St} {H : Heap} {locs : List Loc} {ls : Array Slot}  {k : Int → St → Prop} (hw : Wd G ((injC SB) S) H) (hS : va_S (AG G) s.heap H locs) {x1 : Int} (xo1 : isO 2 x1) (hl : lv_has ls 4 [(0, .ref (G.2.2 1032)), (1, .ref (G.2.2 (x1).toNat))])  (h : wX4_read_0 S x1 k) : W p l e (rmF 6 138) s m args below meth c H locs 0 0 (MQ below (QcI G (injC SB) k) args s 0 0 (AG G)) (F0 m 0 ls []) := by
  refine lv_aload_n C.1.1 C.1.2.1 dX4_read_0 rfl (lv_at hl 0 rfl) ?_
  refine lv_aload_n C.1.1 C.1.2.1 dX4_read_1 rfl (lv_at hl 1 rfl) ?_
  obtain ⟨S_1, e1⟩ : ∃ z : St, z = up S 1032 3 x1 := ⟨_, rfl⟩
  have h := h S_1 e1
  refine y_putR C fl_X4_19 fp_4_3 hw hS (ock_4 SB) rfl xo1.1 dX4_read_2 (fun H locs hw hS => ?_)
  have hw : Wd G ((injC SB) S_1) H := by rw [e1]; exact hw
  refine lv_aload_n C.1.1 C.1.2.1 dX4_read_5 rfl (lv_at hl 0 rfl) ?_
  obtain ⟨x_2, e2⟩ : ∃ z : Int, z = S_1 1032 3 := ⟨_, rfl⟩
  obtain ⟨o2, h⟩ := h x_2 e2
  refine y_getO C fl_X4_19 hw (ock_4 SB) rfl e2 o2 dX4_read_6 ?_
  refine y_cVV C (As := []) (rest := []) ml_X4_50 (kX2_clear l G SB S_1 o2 h) (oc_of SB o2) (T := TX2) (N := 9) rfl (by decide) ⟨(Nat.le_of_ble_eq_true rfl), (Nat.le_of_ble_eq_true rfl)⟩ hl.1 rfl rfl (Nat.le_of_ble_eq_true rfl) hw hS dX4_read_9 (fun S_3 H locs h hw hS => ?_)
  refine lv_aload_n C.1.1 C.1.2.1 dX4_read_12 rfl (lv_at hl 0 rfl) ?_
  refine y_cVV C (As := []) (rest := []) ml_X4_53 (kX4_start l G SB S_3  h) (ock_4 SB) (T := TX4) (N := 15) rfl (by decide) ⟨(Nat.le_of_ble_eq_true rfl), (Nat.le_of_ble_eq_true rfl)⟩ hl.1 rfl rfl (Nat.le_of_ble_eq_true rfl) hw hS dX4_read_13 (fun S_4 H locs h hw hS => ?_)
  refine y_iconst C dX4_read_16 ⟨by decide, by decide⟩ (fun v5 t5 => ?_)
  refine lv_istore_n (lv' := [(2, .int v5), (0, .ref (G.2.2 1032)), (1, .ref (G.2.2 (x1).toNat))]) C.1.1 C.1.2.1 dX4_read_17 rfl hl (by decide) rfl (fun ls hl => ?_)
  refine y_iconst C dX4_read_18 ⟨by decide, by decide⟩ (fun v6 t6 => ?_)
  refine lv_istore_n (lv' := [(3, .int v6), (2, .int v5), (0, .ref (G.2.2 1032)), (1, .ref (G.2.2 (x1).toNat))]) C.1.1 C.1.2.1 dX4_read_19 rfl hl (by decide) rfl (fun ls hl => ?_)
  exact uX4_read_20 C hw hS t5 t6 (lv_sub hl [2, 1, 0] rfl)  h
theorem kX4_read (l : Launch) (G : GG) (SB S : St) {x1 : Int} (xo1 : isO 2 x1) {k : Int → St → Prop} (h : wX4_read S x1 k) : CnI l yX4_read cX4_read 4 (some .boolean) 6 138 G (injC SB) [.ref (G.2.2 1032), .ref (G.2.2 (x1).toNat)] S k :=
  cn_body (by decide +kernel) (Nat.le_of_ble_eq_true rfl) (fun p e s m args below meth c ls C hw hl => uX4_read_0 C hw va_S.rf xo1 (lv_sub hl [0, 1] rfl) h)
