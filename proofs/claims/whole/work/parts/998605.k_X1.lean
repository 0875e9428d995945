/-! by program: the machine meets the models -/
set_option maxHeartbeats 4000000 in
set_option maxRecDepth 10000 in
theorem uX1_open_0 {p : Program} {l : Launch} {e : Env} {s : State} {m : MethodId} {args : Array Value} {below : List Frame} {meth : Method} {c : Code} {G : GG} {SB : St} (C : Cx p s m args meth c G RX1 cX1_open 2 none) {S : St} {H : Heap} {locs : List Loc} {ls : Array Slot}  {k : St → Prop} (hw : Wd G ((injC SB) S) H) (hS : va_S (AG G) s.heap H locs) {x1 : Int} (xo1 : isO 2 x1) (hl : lv_has ls 2 [(0, .ref (G.2.2 1037)), (1, .ref (G.2.2 (x1).toNat))])  (h : wX1_open_0 S x1 k) : W p l e (rmF 0 0) s m args below meth c H locs 0 0 (MQ below (QcV G (injC SB) k) args s 0 0 (AG G)) (F0 m 0 ls []) := by
  refine lv_aload_n C.1.1 C.1.2.1 dX1_open_0 rfl (lv_at hl 0 rfl) ?_
  refine lv_aload_n C.1.1 C.1.2.1 dX1_open_1 rfl (lv_at hl 1 rfl) ?_
  obtain ⟨S_1, e1⟩ : ∃ z : St, z = up S 1037 0 x1 := ⟨_, rfl⟩
  have h := h S_1 e1
  refine y_putR C fl_X1_25 fp_1_0 hw hS (ock_1 SB) rfl xo1.1 dX1_open_2 (fun H locs hw hS => ?_)
  have hw : Wd G ((injC SB) S_1) H := by rw [e1]; exact hw
  exact y_vret C hw hS h dX1_open_5
theorem kX1_open (l : Launch) (G : GG) (SB S : St) {x1 : Int} (xo1 : isO 2 x1) {k : St → Prop} (h : wX1_open S x1 k) : CnV l yX1_open cX1_open 2 none 0 0 G (injC SB) [.ref (G.2.2 1037), .ref (G.2.2 (x1).toNat)] S k :=
  cn_body (by decide +kernel) (Nat.le_of_ble_eq_true rfl) (fun p e s m args below meth c ls C hw hl => uX1_open_0 C hw va_S.rf xo1 (lv_sub hl [0, 1] rfl) h)
set_option maxHeartbeats 4000000 in
set_option maxRecDepth 10000 in
theorem uX1_memberOf_0 {p : Program} {l : Launch} {e : Env} {s : State} {m : MethodId} {args : Array Value} {below : List Frame} {meth : Method} {c : Code} {G : GG} {SB : St} (C : Cx p s m args meth c G RX1 cX1_memberOf 2 (some (.object "CallCourt$Member"))) {S : St} {H : Heap} {locs : List Loc} {ls : Array Slot}  {k : Int → Prop} (hw : Wd G ((injC SB) S) H) (hS : va_S (AG G) s.heap H locs) {xv1 : Int32} {x1 : Int} (xt1 : xv1.toInt = x1) (hl : lv_has ls 2 [(0, .ref (G.2.2 1037)), (1, .int xv1)])  (h : wX1_memberOf_0 S x1 k) : W p l e (rmF 0 0) s m args below meth c H locs 0 0 (MQ below (QcO G (injC SB) (isO 3) (fun r u => k r ∧ u = S)) args s 0 0 (AG G)) (F0 m 0 ls []) := by
  refine lv_aload_n C.1.1 C.1.2.1 dX1_memberOf_0 rfl (lv_at hl 0 rfl) ?_
  obtain ⟨x_1, e1⟩ : ∃ z : Int, z = S 1037 0 := ⟨_, rfl⟩
  obtain ⟨o1, h⟩ := h x_1 e1
  refine y_getO C fl_X1_25 hw (ock_1 SB) rfl e1 o1 dX1_memberOf_1 ?_
  refine y_getA C fl_X1_29 hw (oc_of SB o1) rfl (o := 2) rfl dX1_memberOf_4 ?_
  refine lv_iload_n C.1.1 C.1.2.1 dX1_memberOf_7 rfl (lv_at hl 1 rfl) ?_
  refine y_sipush C dX1_memberOf_8 ⟨by decide, by decide⟩ (fun v3 t3 => ?_)
  refine y_icmp_ge C xt1 t3 dX1_memberOf_11 (tgt := 18) (by decide) (fun c4 => ?_) (fun c4 => ?_)
  · have h := h.1 c4
    refine lv_aload_n C.1.1 C.1.2.1 dX1_memberOf_18 rfl (lv_at hl 0 rfl) ?_
    obtain ⟨x_5, e5⟩ : ∃ z : Int, z = S 1037 0 := ⟨_, rfl⟩
    obtain ⟨o5, h⟩ := h x_5 e5
    refine y_getO C fl_X1_25 hw (ock_1 SB) rfl e5 o5 dX1_memberOf_19 ?_
    refine y_getA C fl_X1_35 hw (oc_of SB o5) rfl (o := 4) rfl dX1_memberOf_22 ?_
    refine lv_iload_n C.1.1 C.1.2.1 dX1_memberOf_25 rfl (lv_at hl 1 rfl) ?_
    refine y_sipush C dX1_memberOf_26 ⟨by decide, by decide⟩ (fun v7 t7 => ?_)
    refine y_isub C xt1 t7 dX1_memberOf_29 (fun v8 t8 => ?_)
    obtain ⟨b9, h⟩ := h
    refine y_iald C hw (ac_2_5 SB o5) t8 b9 dX1_memberOf_30 (fun v9 t9 => ?_)
    obtain ⟨b10, h⟩ := h
    obtain ⟨x_10, e10⟩ : ∃ z : Int, z = x_1 + 150 + 3 * (S (x_5 + 4) (w32 (x1 - 1000))) := ⟨_, rfl⟩
    have h := h x_10 e10
    have o10 : isO 3 x_10 := isO_mb o1 b10 e10
    refine y_mbO C hw o1 t9 b10 e10 dX1_memberOf_31 ?_
    exact y_aret C hw hS o10 ⟨h, rfl⟩ dX1_memberOf_32
  · have h := h.2 c4
    refine lv_iload_n C.1.1 C.1.2.1 dX1_memberOf_14 rfl (lv_at hl 1 rfl) ?_
    refine lv_goto (tgt := 31) C.1.1 C.1.2.1 dX1_memberOf_15 (by decide) ?_
    obtain ⟨b11, h⟩ := h
    obtain ⟨x_11, e11⟩ : ∃ z : Int, z = x_1 + 150 + 3 * x1 := ⟨_, rfl⟩
    have h := h x_11 e11
    have o11 : isO 3 x_11 := isO_mb o1 b11 e11
    refine y_mbO C hw o1 xt1 b11 e11 dX1_memberOf_31 ?_
    exact y_aret C hw hS o11 ⟨h, rfl⟩ dX1_memberOf_32
theorem kX1_memberOf (l : Launch) (G : GG) (SB S : St) {xv1 : Int32} {x1 : Int} (xt1 : xv1.toInt = x1) {k : Int → Prop} (h : wX1_memberOf S x1 k) : CnO l yX1_memberOf cX1_memberOf 2 (some (.object "CallCourt$Member")) 0 0 G (injC SB) (isO 3) [.ref (G.2.2 1037), .int xv1] S (fun r u => k r ∧ u = S) :=
  cn_body (by decide +kernel) (Nat.le_of_ble_eq_true rfl) (fun p e s m args below meth c ls C hw hl => uX1_memberOf_0 C hw va_S.rf xt1 (lv_sub hl [0, 1] rfl) h)
set_option maxHeartbeats 4000000 in
set_option maxRecDepth 10000 in
theorem uX1_isAbstract_0 {p : Program} {l : Launch} {e : Env} {s : State} {m : MethodId} {args : Array Value} {below : List Frame} {meth : Method} {c : Code} {G : GG} {SB : St} (C : Cx p s m args meth c G RX1 cX1_isAbstract 2 (some .boolean)) {S : St} {H : Heap} {locs : List Loc} {ls : Array Slot}  {k : Int → Prop} (hw : Wd G ((injC SB) S) H) (hS : va_S (AG G) s.heap H locs) {xv1 : Int32} {x1 : Int} (xt1 : xv1.toInt = x1) (hl : lv_has ls 2 [(0, .ref (G.2.2 1037)), (1, .int xv1)])  (h : wX1_isAbstract_0 S x1 k) : W p l e (rmF 1 21) s m args below meth c H locs 0 0 (MQ below (QcI G (injC SB) (fun r u => k r ∧ u = S)) args s 0 0 (AG G)) (F0 m 0 ls []) := by
  refine lv_aload_n C.1.1 C.1.2.1 dX1_isAbstract_0 rfl (lv_at hl 0 rfl) ?_
  refine lv_iload_n C.1.1 C.1.2.1 dX1_isAbstract_1 rfl (lv_at hl 1 rfl) ?_
  refine y_cVOp C (As := [.int xv1]) (rest := []) ml_X1_38 (kX1_memberOf l G SB S xt1 h) (ock_1 SB) (T := TX1) (N := 8) rfl (by decide) ⟨(Nat.le_of_ble_eq_true rfl), (Nat.le_of_ble_eq_true rfl)⟩ hl.1 rfl rfl (Nat.le_of_ble_eq_true rfl) hw hS dX1_isAbstract_2 (fun x_1 H locs o1 h hw hS => ?_)
  refine y_getI C fl_X1_42 hw (oc_of SB o1) rfl dX1_isAbstract_5 (fun v2 t2 => ?_)
  refine y_iconst C dX1_isAbstract_8 ⟨by decide, by decide⟩ (fun v3 t3 => ?_)
  refine y_icmp_ne C t2 t3 dX1_isAbstract_9 (tgt := 16) (by decide) (fun c4 => ?_) (fun c4 => ?_)
  · have h := h.1 c4
    refine y_iconst C dX1_isAbstract_16 ⟨by decide, by decide⟩ (fun v5 t5 => ?_)
    exact y_zret C hw hS t5 (Or.inl rfl) ⟨h, rfl⟩ dX1_isAbstract_17
  · have h := h.2 c4
    refine y_iconst C dX1_isAbstract_12 ⟨by decide, by decide⟩ (fun v6 t6 => ?_)
    refine lv_goto (tgt := 17) C.1.1 C.1.2.1 dX1_isAbstract_13 (by decide) ?_
    exact y_zret C hw hS t6 (Or.inr rfl) ⟨h, rfl⟩ dX1_isAbstract_17
theorem kX1_isAbstract (l : Launch) (G : GG) (SB S : St) {xv1 : Int32} {x1 : Int} (xt1 : xv1.toInt = x1) {k : Int → Prop} (h : wX1_isAbstract S x1 k) : CnI l yX1_isAbstract cX1_isAbstract 2 (some .boolean) 1 21 G (injC SB) [.ref (G.2.2 1037), .int xv1] S (fun r u => k r ∧ u = S) :=
  cn_body (by decide +kernel) (Nat.le_of_ble_eq_true rfl) (fun p e s m args below meth c ls C hw hl => uX1_isAbstract_0 C hw va_S.rf xt1 (lv_sub hl [0, 1] rfl) h)
set_option maxHeartbeats 4000000 in
set_option maxRecDepth 10000 in
theorem uX1_gatherFaces_108 {p : Program} {l : Launch} {e : Env} {s : State} {m : MethodId} {args : Array Value} {below : List Frame} {meth : Method} {c : Code} {G : GG} {SB : St} (C : Cx p s m args meth c G RX1 cX1_gatherFaces 8 none) {S : St} {H : Heap} {locs : List Loc} {ls : Array Slot} {P60 : Int → St → Prop} {k : St → Prop} (hw : Wd G ((injC SB) S) H) (hS : va_S (AG G) s.heap H locs) {xv2 : Int32} {x2 : Int} (xt2 : xv2.toInt = x2) {x3 : Int} (xo3 : isO 6 x3) {xv5 : Int32} {x5 : Int} (xt5 : xv5.toInt = x5) {sv0 : Int32} {s0 : Int} (st0 : sv0.toInt = s0) (hl : lv_has ls 8 [(0, .ref (G.2.2 1037)), (2, .int xv2), (3, .ref (G.2.2 (x3).toNat)), (5, .int xv5)]) (hP60 : ∀ {H : Heap} {locs : List Loc} {ls : Array Slot} {Sy : St} {yv5 : Int32} {y5 : Int}, yv5.toInt = y5 → Wd G ((injC SB) Sy) H → va_S (AG G) s.heap H locs → lv_has ls 8 [(0, .ref (G.2.2 1037)), (2, .int xv2), (3, .ref (G.2.2 (x3).toNat)), (5, .int yv5)] → P60 y5 Sy → W p l e (rmF 1 25) s m args below meth c H locs 0 0 (MQ below (QcV G (injC SB) k) args s 0 0 (AG G)) (F0 m 60 ls [])) (h : wX1_gatherFaces_108 S x2 x3 x5 s0 P60 k) : W p l e (rmF 1 25) s m args below meth c H locs 0 0 (MQ below (QcV G (injC SB) k) args s 0 0 (AG G)) (F0 m 108 ls [.int sv0]) := by
  refine lv_istore (lv' := [(7, .int sv0), (0, .ref (G.2.2 1037)), (2, .int xv2), (3, .ref (G.2.2 (x3).toNat)), (5, .int xv5)]) C.1.1 C.1.2.1 dX1_gatherFaces_108 hl (by decide) rfl (fun ls hl => ?_)
  refine lv_iload C.1.1 C.1.2.1 dX1_gatherFaces_110 (lv_at hl 0 rfl) ?_
  refine y_iconst C dX1_gatherFaces_112 ⟨by decide, by decide⟩ (fun v1 t1 => ?_)
  refine y_icmp_eq C st0 t1 dX1_gatherFaces_113 (tgt := 149) (by decide) (fun c2 => ?_) (fun c2 => ?_)
  · have h := h.1 c2
    obtain ⟨x_3, e3⟩ : ∃ z : Int, z = w32 (x5 + 1) := ⟨_, rfl⟩
    have h := h x_3 e3
    obtain ⟨v3, t3, g3⟩ : ∃ z : Int32, z.toInt = x_3 ∧ xv5 + Int32.ofInt 1 = z := ⟨_, (ti_inc xt5 ⟨by decide, by decide⟩).trans e3.symm, rfl⟩
    refine lv_iinc (v := v3) (lv' := [(5, .int v3), (7, .int sv0), (0, .ref (G.2.2 1037)), (2, .int xv2), (3, .ref (G.2.2 (x3).toNat))]) C.1.1 C.1.2.1 dX1_gatherFaces_149 hl (k := 4) rfl g3 (by decide) rfl (fun ls hl => ?_)
    refine lv_goto (tgt := 60) C.1.1 C.1.2.1 dX1_gatherFaces_152 (by decide) ?_
    exact hP60 t3 hw hS (lv_sub hl [2, 3, 4, 0] rfl) h
  · have h := h.2 c2
    refine lv_aload_n C.1.1 C.1.2.1 dX1_gatherFaces_116 rfl (lv_at hl 1 rfl) ?_
    refine lv_iload C.1.1 C.1.2.1 dX1_gatherFaces_117 (lv_at hl 0 rfl) ?_
    refine y_cVOp C (As := [.int sv0]) (rest := []) ml_X1_38 (kX1_memberOf l G SB S st0 h) (ock_1 SB) (T := TX1) (N := 8) rfl (by decide) ⟨(Nat.le_of_ble_eq_true rfl), (Nat.le_of_ble_eq_true rfl)⟩ hl.1 rfl rfl (Nat.le_of_ble_eq_true rfl) hw hS dX1_gatherFaces_119 (fun x_4 H locs o4 h hw hS => ?_)
    refine y_cVIp C (As := []) (rest := []) ml_X1_82 (kX3_isFree l G SB S o4 h) (oc_of SB o4) (T := TX3) (N := 8) rfl (by decide) ⟨(Nat.le_of_ble_eq_true rfl), (Nat.le_of_ble_eq_true rfl)⟩ hl.1 rfl rfl (Nat.le_of_ble_eq_true rfl) hw hS dX1_gatherFaces_122 (fun v5 x_5 H locs t5 h hw hS => ?_)
    refine y_if_eq C t5 dX1_gatherFaces_125 (tgt := 149) (by decide) (fun c6 => ?_) (fun c6 => ?_)
    · have h := h.1 c6
      obtain ⟨x_7, e7⟩ : ∃ z : Int, z = w32 (x5 + 1) := ⟨_, rfl⟩
      have h := h x_7 e7
      obtain ⟨v7, t7, g7⟩ : ∃ z : Int32, z.toInt = x_7 ∧ xv5 + Int32.ofInt 1 = z := ⟨_, (ti_inc xt5 ⟨by decide, by decide⟩).trans e7.symm, rfl⟩
      refine lv_iinc (v := v7) (lv' := [(5, .int v7), (7, .int sv0), (0, .ref (G.2.2 1037)), (2, .int xv2), (3, .ref (G.2.2 (x3).toNat))]) C.1.1 C.1.2.1 dX1_gatherFaces_149 hl (k := 4) rfl g7 (by decide) rfl (fun ls hl => ?_)
      refine lv_goto (tgt := 60) C.1.1 C.1.2.1 dX1_gatherFaces_152 (by decide) ?_
      exact hP60 t7 hw hS (lv_sub hl [2, 3, 4, 0] rfl) h
    · have h := h.2 c6
      refine lv_aload_n C.1.1 C.1.2.1 dX1_gatherFaces_128 rfl (lv_at hl 1 rfl) ?_
      refine y_getA C fl_X1_9 hw (ock_1 SB) rfl (o := 1) rfl dX1_gatherFaces_129 ?_
      refine lv_aload_n C.1.1 C.1.2.1 dX1_gatherFaces_132 rfl (lv_at hl 1 rfl) ?_
      refine y_getI C fl_X1_73 hw (ock_1 SB) rfl dX1_gatherFaces_133 (fun v9 t9 => ?_)
      refine lv_iload C.1.1 C.1.2.1 dX1_gatherFaces_136 (lv_at hl 0 rfl) ?_
      obtain ⟨b10, h⟩ := h
      obtain ⟨S_10, e10⟩ : ∃ z : St, z = up S 1038 (S 1037 2) s0 := ⟨_, rfl⟩
      have h := h S_10 e10
      refine y_iast C hw hS (ack_1_1 SB) t9 st0 b10 dX1_gatherFaces_138 (fun H locs hw hS => ?_)
      have hw : Wd G ((injC SB) S_10) H := by rw [e10]; exact hw
      refine lv_aload_n C.1.1 C.1.2.1 dX1_gatherFaces_139 rfl (lv_at hl 1 rfl) ?_
      refine lv_dup C.1.1 C.1.2.1 dX1_gatherFaces_140 rfl ?_
      refine y_getI C fl_X1_73 hw (ock_1 SB) rfl dX1_gatherFaces_141 (fun v11 t11 => ?_)
      refine y_iconst C dX1_gatherFaces_144 ⟨by decide, by decide⟩ (fun v12 t12 => ?_)
      refine y_iadd C t11 t12 dX1_gatherFaces_145 (fun v13 t13 => ?_)
      obtain ⟨S_14, e14⟩ : ∃ z : St, z = up S_10 1037 2 (w32 (S_10 1037 2 + 1)) := ⟨_, rfl⟩
      have h := h S_14 e14
      refine y_putI C fl_X1_73 fp_1_2 hw hS (ock_1 SB) rfl t13 dX1_gatherFaces_146 (fun H locs hw hS => ?_)
      have hw : Wd G ((injC SB) S_14) H := by rw [e14]; exact hw
      obtain ⟨x_15, e15⟩ : ∃ z : Int, z = w32 (x5 + 1) := ⟨_, rfl⟩
      have h := h x_15 e15
      obtain ⟨v15, t15, g15⟩ : ∃ z : Int32, z.toInt = x_15 ∧ xv5 + Int32.ofInt 1 = z := ⟨_, (ti_inc xt5 ⟨by decide, by decide⟩).trans e15.symm, rfl⟩
      refine lv_iinc (v := v15) (lv' := [(5, .int v15), (7, .int sv0), (0, .ref (G.2.2 1037)), (2, .int xv2), (3, .ref (G.2.2 (x3).toNat))]) C.1.1 C.1.2.1 dX1_gatherFaces_149 hl (k := 4) rfl g15 (by decide) rfl (fun ls hl => ?_)
      refine lv_goto (tgt := 60) C.1.1 C.1.2.1 dX1_gatherFaces_152 (by decide) ?_
      exact hP60 t15 hw hS (lv_sub hl [2, 3, 4, 0] rfl) h
set_option maxHeartbeats 4000000 in
set_option maxRecDepth 10000 in
theorem uX1_gatherFaces_60_b {p : Program} {l : Launch} {e : Env} {s : State} {m : MethodId} {args : Array Value} {below : List Frame} {meth : Method} {c : Code} {G : GG} {SB : St} (C : Cx p s m args meth c G RX1 cX1_gatherFaces 8 none) {S : St} {H : Heap} {locs : List Loc} {ls : Array Slot}  {P60 : Int → St → Prop} {k : St → Prop} (hw : Wd G ((injC SB) S) H) (hS : va_S (AG G) s.heap H locs) {xv2 : Int32} {x2 : Int} (xt2 : xv2.toInt = x2) {x3 : Int} (xo3 : isO 6 x3) {xv5 : Int32} {x5 : Int} (xt5 : xv5.toInt = x5) (hl : lv_has ls 8 [(0, .ref (G.2.2 1037)), (2, .int xv2), (3, .ref (G.2.2 (x3).toNat)), (5, .int xv5)])  (hP60 : ∀ {H : Heap} {locs : List Loc} {ls : Array Slot} {Sy : St} {yv5 : Int32} {y5 : Int}, yv5.toInt = y5 → Wd G ((injC SB) Sy) H → va_S (AG G) s.heap H locs → lv_has ls 8 [(0, .ref (G.2.2 1037)), (2, .int xv2), (3, .ref (G.2.2 (x3).toNat)), (5, .int yv5)] → P60 y5 Sy → W p l e (rmF 1 25) s m args below meth c H locs 0 0 (MQ below (QcV G (injC SB) k) args s 0 0 (AG G)) (F0 m 60 ls [])) (h : wX1_gatherFaces_60_b S x2 x3 x5 P60 k) : W p l e (rmF 1 25) s m args below meth c H locs 0 0 (MQ below (QcV G (injC SB) k) args s 0 0 (AG G)) (F0 m 60 ls []) := by
  refine lv_iload C.1.1 C.1.2.1 dX1_gatherFaces_60 (lv_at hl 3 rfl) ?_
  refine lv_aload_n C.1.1 C.1.2.1 dX1_gatherFaces_62 rfl (lv_at hl 2 rfl) ?_
  refine y_getI C fl_X1_76 hw (oc_of SB xo3) rfl dX1_gatherFaces_63 (fun v1 t1 => ?_)
  refine y_icmp_ge C xt5 t1 dX1_gatherFaces_66 (tgt := 155) (by decide) (fun c2 => ?_) (fun c2 => ?_)
  · have h := h.1 c2
    exact y_vret C hw hS h dX1_gatherFaces_155
  · have h := h.2 c2
    refine lv_aload_n C.1.1 C.1.2.1 dX1_gatherFaces_69 rfl (lv_at hl 0 rfl) ?_
    obtain ⟨x_3, e3⟩ : ∃ z : Int, z = S 1037 0 := ⟨_, rfl⟩
    obtain ⟨o3, h⟩ := h x_3 e3
    refine y_getO C fl_X1_25 hw (ock_1 SB) rfl e3 o3 dX1_gatherFaces_70 ?_
    refine y_getA C fl_X1_48 hw (oc_of SB o3) rfl (o := 1) rfl dX1_gatherFaces_73 ?_
    refine lv_aload_n C.1.1 C.1.2.1 dX1_gatherFaces_76 rfl (lv_at hl 2 rfl) ?_
    refine y_getA C fl_X1_79 hw (oc_of SB xo3) rfl (o := 4) rfl dX1_gatherFaces_77 ?_
    refine lv_iload C.1.1 C.1.2.1 dX1_gatherFaces_80 (lv_at hl 3 rfl) ?_
    obtain ⟨b6, h⟩ := h
    refine y_iald C hw (ac_6_13 SB xo3) xt5 b6 dX1_gatherFaces_82 (fun v6 t6 => ?_)
    obtain ⟨b7, h⟩ := h
    obtain ⟨x_7, e7⟩ : ∃ z : Int, z = x_3 + 6 + 6 * (S (x3 + 4) x5) := ⟨_, rfl⟩
    have h := h x_7 e7
    have o7 : isO 6 x_7 := isO_ty o3 b7 e7
    refine y_tyO C hw o3 t6 b7 e7 dX1_gatherFaces_83 ?_
    refine lv_astore (lv' := [(6, .ref (G.2.2 (x_7).toNat)), (0, .ref (G.2.2 1037)), (2, .int xv2), (3, .ref (G.2.2 (x3).toNat)), (5, .int xv5)]) C.1.1 C.1.2.1 dX1_gatherFaces_84 hl (by decide) rfl (fun ls hl => ?_)
    refine lv_aload C.1.1 C.1.2.1 dX1_gatherFaces_86 (lv_at hl 0 rfl) ?_
    refine y_cVIp C (As := []) (rest := []) ml_X1_52 (kX6_isFace l G SB S o7 h) (oc_of SB o7) (T := TX6) (N := 20) rfl (by decide) ⟨(Nat.le_of_ble_eq_true rfl), (Nat.le_of_ble_eq_true rfl)⟩ hl.1 rfl rfl (Nat.le_of_ble_eq_true rfl) hw hS dX1_gatherFaces_88 (fun v8 x_8 H locs t8 h hw hS => ?_)
    refine y_if_eq C t8 dX1_gatherFaces_91 (tgt := 107) (by decide) (fun c9 => ?_) (fun c9 => ?_)
    · have h := h.1 c9
      refine y_iconst C dX1_gatherFaces_107 ⟨by decide, by decide⟩ (fun v10 t10 => ?_)
      exact uX1_gatherFaces_108 C hw hS xt2 xo3 xt5 t10 (lv_sub hl [1, 2, 3, 4] rfl) hP60 h
    · have h := h.2 c9
      refine lv_aload_n C.1.1 C.1.2.1 dX1_gatherFaces_94 rfl (lv_at hl 1 rfl) ?_
      obtain ⟨x_11, e11⟩ : ∃ z : Int, z = S 1037 0 := ⟨_, rfl⟩
      obtain ⟨o11, h⟩ := h x_11 e11
      refine y_getO C fl_X1_25 hw (ock_1 SB) rfl e11 o11 dX1_gatherFaces_95 ?_
      refine lv_aload C.1.1 C.1.2.1 dX1_gatherFaces_98 (lv_at hl 0 rfl) ?_
      refine lv_iload_n C.1.1 C.1.2.1 dX1_gatherFaces_100 rfl (lv_at hl 2 rfl) ?_
      refine y_cVIp C (As := [.ref (G.2.2 (x_7).toNat), .int xv2]) (rest := []) ml_X1_58 (kX2_methodIn l G SB S o11 o7 xt2 h) (oc_of SB o11) (T := TX2) (N := 9) rfl (by decide) ⟨(Nat.le_of_ble_eq_true rfl), (Nat.le_of_ble_eq_true rfl)⟩ hl.1 rfl rfl (Nat.le_of_ble_eq_true rfl) hw hS dX1_gatherFaces_101 (fun v12 x_12 H locs t12 h hw hS => ?_)
      refine lv_goto (tgt := 108) C.1.1 C.1.2.1 dX1_gatherFaces_104 (by decide) ?_
      exact uX1_gatherFaces_108 C hw hS xt2 xo3 xt5 t12 (lv_sub hl [1, 2, 3, 4] rfl) hP60 h
set_option maxHeartbeats 4000000 in
set_option maxRecDepth 10000 in
theorem uX1_gatherFaces_60 {p : Program} {l : Launch} {e : Env} {s : State} {m : MethodId} {args : Array Value} {below : List Frame} {meth : Method} {c : Code} {G : GG} {SB : St} (C : Cx p s m args meth c G RX1 cX1_gatherFaces 8 none) {S : St} {H : Heap} {locs : List Loc} {ls : Array Slot}  {k : St → Prop} (hw : Wd G ((injC SB) S) H) (hS : va_S (AG G) s.heap H locs) {xv2 : Int32} {x2 : Int} (xt2 : xv2.toInt = x2) {x3 : Int} (xo3 : isO 6 x3) {xv5 : Int32} {x5 : Int} (xt5 : xv5.toInt = x5) (hl : lv_has ls 8 [(0, .ref (G.2.2 1037)), (2, .int xv2), (3, .ref (G.2.2 (x3).toNat)), (5, .int xv5)])  (h : wX1_gatherFaces_60 S x2 x3 x5 k) : W p l e (rmF 1 25) s m args below meth c H locs 0 0 (MQ below (QcV G (injC SB) k) args s 0 0 (AG G)) (F0 m 60 ls []) := by
  have key : ∀ (n : Nat) {H : Heap} {locs : List Loc} {ls : Array Slot} {S : St} {xv5 : Int32} {x5 : Int}, xv5.toInt = x5 → Wd G ((injC SB) S) H → va_S (AG G) s.heap H locs → lv_has ls 8 [(0, .ref (G.2.2 1037)), (2, .int xv2), (3, .ref (G.2.2 (x3).toNat)), (5, .int xv5)] → itP (fun (P : Int × St → Prop) (a : Int × St) => wX1_gatherFaces_60_b a.2 x2 x3 a.1 (fun b0 b1 => P (b0, b1)) k) n (x5, S) → W p l e (rmF 1 25) s m args below meth c H locs 0 0 (MQ below (QcV G (injC SB) k) args s 0 0 (AG G)) (F0 m 60 ls []) := by
    intro n
    induction n with
    | zero => intro H locs ls S xv5 x5 xt5 hw hS hl h; exact h.elim
    | succ n ih =>
      intro H locs ls S xv5 x5 xt5 hw hS hl h
      exact uX1_gatherFaces_60_b C hw hS xt2 xo3 xt5 hl  (P60 := fun b0 b1 => itP _ n (b0, b1)) (fun q0 hw hS hl h => ih q0 hw hS hl h) h
  obtain ⟨n, hn⟩ := h
  exact key n xt5 hw hS hl hn
set_option maxHeartbeats 4000000 in
set_option maxRecDepth 10000 in
theorem uX1_gatherFaces_35 {p : Program} {l : Launch} {e : Env} {s : State} {m : MethodId} {args : Array Value} {below : List Frame} {meth : Method} {c : Code} {G : GG} {SB : St} (C : Cx p s m args meth c G RX1 cX1_gatherFaces 8 none) {S : St} {H : Heap} {locs : List Loc} {ls : Array Slot}  {k : St → Prop} (hw : Wd G ((injC SB) S) H) (hS : va_S (AG G) s.heap H locs) {xv2 : Int32} {x2 : Int} (xt2 : xv2.toInt = x2) {x3 : Int} (xo3 : isO 6 x3) {sv0 : Int32} {s0 : Int} (st0 : sv0.toInt = s0) (hl : lv_has ls 8 [(0, .ref (G.2.2 1037)), (2, .int xv2), (3, .ref (G.2.2 (x3).toNat))])  (h : wX1_gatherFaces_35 S x2 x3 s0 k) : W p l e (rmF 1 25) s m args below meth c H locs 0 0 (MQ below (QcV G (injC SB) k) args s 0 0 (AG G)) (F0 m 35 ls [.int sv0]) := by
  refine lv_istore (lv' := [(4, .int sv0), (0, .ref (G.2.2 1037)), (2, .int xv2), (3, .ref (G.2.2 (x3).toNat))]) C.1.1 C.1.2.1 dX1_gatherFaces_35 hl (by decide) rfl (fun ls hl => ?_)
  refine lv_iload C.1.1 C.1.2.1 dX1_gatherFaces_37 (lv_at hl 0 rfl) ?_
  refine y_iconst C dX1_gatherFaces_39 ⟨by decide, by decide⟩ (fun v1 t1 => ?_)
  refine y_icmp_eq C st0 t1 dX1_gatherFaces_40 (tgt := 57) (by decide) (fun c2 => ?_) (fun c2 => ?_)
  · have h := h.1 c2
    refine y_iconst C dX1_gatherFaces_57 ⟨by decide, by decide⟩ (fun v3 t3 => ?_)
    refine lv_istore (lv' := [(5, .int v3), (4, .int sv0), (0, .ref (G.2.2 1037)), (2, .int xv2), (3, .ref (G.2.2 (x3).toNat))]) C.1.1 C.1.2.1 dX1_gatherFaces_58 hl (by decide) rfl (fun ls hl => ?_)
    exact uX1_gatherFaces_60 C hw hS xt2 xo3 t3 (lv_sub hl [2, 3, 4, 0] rfl)  h
  · have h := h.2 c2
    refine lv_aload_n C.1.1 C.1.2.1 dX1_gatherFaces_43 rfl (lv_at hl 1 rfl) ?_
    refine y_getA C fl_X1_9 hw (ock_1 SB) rfl (o := 1) rfl dX1_gatherFaces_44 ?_
    refine y_iconst C dX1_gatherFaces_47 ⟨by decide, by decide⟩ (fun v5 t5 => ?_)
    refine lv_iload C.1.1 C.1.2.1 dX1_gatherFaces_48 (lv_at hl 0 rfl) ?_
    obtain ⟨S_6, e6⟩ : ∃ z : St, z = up S 1038 0 s0 := ⟨_, rfl⟩
    have h := h S_6 e6
    refine y_iast C hw hS (ack_1_1 SB) t5 st0 ⟨by decide, by decide⟩ dX1_gatherFaces_50 (fun H locs hw hS => ?_)
    have hw : Wd G ((injC SB) S_6) H := by rw [e6]; exact hw
    refine lv_aload_n C.1.1 C.1.2.1 dX1_gatherFaces_51 rfl (lv_at hl 1 rfl) ?_
    refine y_iconst C dX1_gatherFaces_52 ⟨by decide, by decide⟩ (fun v7 t7 => ?_)
    obtain ⟨S_8, e8⟩ : ∃ z : St, z = up S_6 1037 2 1 := ⟨_, rfl⟩
    have h := h S_8 e8
    refine y_putI C fl_X1_73 fp_1_2 hw hS (ock_1 SB) rfl t7 dX1_gatherFaces_53 (fun H locs hw hS => ?_)
    have hw : Wd G ((injC SB) S_8) H := by rw [e8]; exact hw
    exact y_vret C hw hS h dX1_gatherFaces_56
set_option maxHeartbeats 4000000 in
set_option maxRecDepth 10000 in
theorem uX1_gatherFaces_0 {p : Program} {l : Launch} {e : Env} {s : State} {m : MethodId} {args : Array Value} {below : List Frame} {meth : Method} {c : Code} {G : GG} {SB : St} (C : Cx p s m args meth c G RX1 cX1_gatherFaces 8 none) {S : St} {H : Heap} {locs : List Loc} {ls : Array Slot}  {k : St → Prop} (hw : Wd G ((injC SB) S) H) (hS : va_S (AG G) s.heap H locs) {xv1 : Int32} {x1 : Int} (xt1 : xv1.toInt = x1) {xv2 : Int32} {x2 : Int} (xt2 : xv2.toInt = x2) (hl : lv_has ls 8 [(0, .ref (G.2.2 1037)), (1, .int xv1), (2, .int xv2)])  (h : wX1_gatherFaces_0 S x1 x2 k) : W p l e (rmF 1 25) s m args below meth c H locs 0 0 (MQ below (QcV G (injC SB) k) args s 0 0 (AG G)) (F0 m 0 ls []) := by
  refine lv_aload_n C.1.1 C.1.2.1 dX1_gatherFaces_0 rfl (lv_at hl 0 rfl) ?_
  obtain ⟨x_1, e1⟩ : ∃ z : Int, z = S 1037 0 := ⟨_, rfl⟩
  obtain ⟨o1, h⟩ := h x_1 e1
  refine y_getO C fl_X1_25 hw (ock_1 SB) rfl e1 o1 dX1_gatherFaces_1 ?_
  refine y_getA C fl_X1_48 hw (oc_of SB o1) rfl (o := 1) rfl dX1_gatherFaces_4 ?_
  refine lv_iload_n C.1.1 C.1.2.1 dX1_gatherFaces_7 rfl (lv_at hl 1 rfl) ?_
  obtain ⟨b3, h⟩ := h
  obtain ⟨x_3, e3⟩ : ∃ z : Int, z = x_1 + 6 + 6 * x1 := ⟨_, rfl⟩
  have h := h x_3 e3
  have o3 : isO 6 x_3 := isO_ty o1 b3 e3
  refine y_tyO C hw o1 xt1 b3 e3 dX1_gatherFaces_8 ?_
  refine lv_astore_n (lv' := [(3, .ref (G.2.2 (x_3).toNat)), (0, .ref (G.2.2 1037)), (1, .int xv1), (2, .int xv2)]) C.1.1 C.1.2.1 dX1_gatherFaces_9 rfl hl (by decide) rfl (fun ls hl => ?_)
  refine lv_aload_n C.1.1 C.1.2.1 dX1_gatherFaces_10 rfl (lv_at hl 1 rfl) ?_
  refine y_iconst C dX1_gatherFaces_11 ⟨by decide, by decide⟩ (fun v4 t4 => ?_)
  obtain ⟨S_5, e5⟩ : ∃ z : St, z = up S 1037 2 0 := ⟨_, rfl⟩
  have h := h S_5 e5
  refine y_putI C fl_X1_73 fp_1_2 hw hS (ock_1 SB) rfl t4 dX1_gatherFaces_12 (fun H locs hw hS => ?_)
  have hw : Wd G ((injC SB) S_5) H := by rw [e5]; exact hw
  refine lv_aload_n C.1.1 C.1.2.1 dX1_gatherFaces_15 rfl (lv_at hl 0 rfl) ?_
  refine y_cVIp C (As := []) (rest := []) ml_X1_52 (kX6_isFace l G SB S_5 o3 h) (oc_of SB o3) (T := TX6) (N := 20) rfl (by decide) ⟨(Nat.le_of_ble_eq_true rfl), (Nat.le_of_ble_eq_true rfl)⟩ hl.1 rfl rfl (Nat.le_of_ble_eq_true rfl) hw hS dX1_gatherFaces_16 (fun v6 x_6 H locs t6 h hw hS => ?_)
  refine y_if_eq C t6 dX1_gatherFaces_19 (tgt := 34) (by decide) (fun c7 => ?_) (fun c7 => ?_)
  · have h := h.1 c7
    refine y_iconst C dX1_gatherFaces_34 ⟨by decide, by decide⟩ (fun v8 t8 => ?_)
    exact uX1_gatherFaces_35 C hw hS xt2 o3 t8 (lv_sub hl [1, 3, 0] rfl)  h
  · have h := h.2 c7
    refine lv_aload_n C.1.1 C.1.2.1 dX1_gatherFaces_22 rfl (lv_at hl 1 rfl) ?_
    obtain ⟨x_9, e9⟩ : ∃ z : Int, z = S_5 1037 0 := ⟨_, rfl⟩
    obtain ⟨o9, h⟩ := h x_9 e9
    refine y_getO C fl_X1_25 hw (ock_1 SB) rfl e9 o9 dX1_gatherFaces_23 ?_
    refine lv_aload_n C.1.1 C.1.2.1 dX1_gatherFaces_26 rfl (lv_at hl 0 rfl) ?_
    refine lv_iload_n C.1.1 C.1.2.1 dX1_gatherFaces_27 rfl (lv_at hl 3 rfl) ?_
    refine y_cVIp C (As := [.ref (G.2.2 (x_3).toNat), .int xv2]) (rest := []) ml_X1_58 (kX2_methodIn l G SB S_5 o9 o3 xt2 h) (oc_of SB o9) (T := TX2) (N := 9) rfl (by decide) ⟨(Nat.le_of_ble_eq_true rfl), (Nat.le_of_ble_eq_true rfl)⟩ hl.1 rfl rfl (Nat.le_of_ble_eq_true rfl) hw hS dX1_gatherFaces_28 (fun v10 x_10 H locs t10 h hw hS => ?_)
    refine lv_goto (tgt := 35) C.1.1 C.1.2.1 dX1_gatherFaces_31 (by decide) ?_
    exact uX1_gatherFaces_35 C hw hS xt2 o3 t10 (lv_sub hl [1, 3, 0] rfl)  h
theorem kX1_gatherFaces (l : Launch) (G : GG) (SB S : St) {xv1 : Int32} {x1 : Int} (xt1 : xv1.toInt = x1) {xv2 : Int32} {x2 : Int} (xt2 : xv2.toInt = x2) {k : St → Prop} (h : wX1_gatherFaces S x1 x2 k) : CnV l yX1_gatherFaces cX1_gatherFaces 8 none 1 25 G (injC SB) [.ref (G.2.2 1037), .int xv1, .int xv2] S k :=
  cn_body (by decide +kernel) (Nat.le_of_ble_eq_true rfl) (fun p e s m args below meth c ls C hw hl => uX1_gatherFaces_0 C hw va_S.rf xt1 xt2 (lv_sub hl [0, 1, 2] rfl) h)
set_option maxHeartbeats 4000000 in
set_option maxRecDepth 10000 in
theorem uX1_isSpecific_16_b {p : Program} {l : Launch} {e : Env} {s : State} {m : MethodId} {args : Array Value} {below : List Frame} {meth : Method} {c : Code} {G : GG} {SB : St} (C : Cx p s m args meth c G RX1 cX1_isSpecific 4 (some .boolean)) {S : St} {H : Heap} {locs : List Loc} {ls : Array Slot}  {P16 : Int → Prop} {k : Int → Prop} (hw : Wd G ((injC SB) S) H) (hS : va_S (AG G) s.heap H locs) {xv1 : Int32} {x1 : Int} (xt1 : xv1.toInt = x1) {xv2 : Int32} {x2 : Int} (xt2 : xv2.toInt = x2) {xv3 : Int32} {x3 : Int} (xt3 : xv3.toInt = x3) (hl : lv_has ls 4 [(0, .ref (G.2.2 1037)), (1, .int xv1), (2, .int xv2), (3, .int xv3)])  (hP16 : ∀ {H : Heap} {locs : List Loc} {ls : Array Slot} {yv3 : Int32} {y3 : Int}, yv3.toInt = y3 → Wd G ((injC SB) S) H → va_S (AG G) s.heap H locs → lv_has ls 4 [(0, .ref (G.2.2 1037)), (1, .int xv1), (2, .int xv2), (3, .int yv3)] → P16 y3 → W p l e (rmF 1 22) s m args below meth c H locs 0 0 (MQ below (QcI G (injC SB) (fun r u => k r ∧ u = S)) args s 0 0 (AG G)) (F0 m 16 ls [])) (h : wX1_isSpecific_16_b S x1 x2 x3 P16 k) : W p l e (rmF 1 22) s m args below meth c H locs 0 0 (MQ below (QcI G (injC SB) (fun r u => k r ∧ u = S)) args s 0 0 (AG G)) (F0 m 16 ls []) := by
  refine lv_iload_n C.1.1 C.1.2.1 dX1_isSpecific_16 rfl (lv_at hl 3 rfl) ?_
  refine lv_aload_n C.1.1 C.1.2.1 dX1_isSpecific_17 rfl (lv_at hl 0 rfl) ?_
  refine y_getI C fl_X1_73 hw (ock_1 SB) rfl dX1_isSpecific_18 (fun v1 t1 => ?_)
  refine y_icmp_ge C xt3 t1 dX1_isSpecific_21 (tgt := 61) (by decide) (fun c2 => ?_) (fun c2 => ?_)
  · have h := h.1 c2
    refine y_iconst C dX1_isSpecific_61 ⟨by decide, by decide⟩ (fun v3 t3 => ?_)
    exact y_zret C hw hS t3 (Or.inr rfl) ⟨h, rfl⟩ dX1_isSpecific_62
  · have h := h.2 c2
    refine lv_iload_n C.1.1 C.1.2.1 dX1_isSpecific_24 rfl (lv_at hl 3 rfl) ?_
    refine lv_iload_n C.1.1 C.1.2.1 dX1_isSpecific_25 rfl (lv_at hl 1 rfl) ?_
    refine y_icmp_eq C xt3 xt1 dX1_isSpecific_26 (tgt := 55) (by decide) (fun c4 => ?_) (fun c4 => ?_)
    · have h := h.1 c4
      obtain ⟨x_5, e5⟩ : ∃ z : Int, z = w32 (x3 + 1) := ⟨_, rfl⟩
      have h := h x_5 e5
      obtain ⟨v5, t5, g5⟩ : ∃ z : Int32, z.toInt = x_5 ∧ xv3 + Int32.ofInt 1 = z := ⟨_, (ti_inc xt3 ⟨by decide, by decide⟩).trans e5.symm, rfl⟩
      refine lv_iinc (v := v5) (lv' := [(3, .int v5), (0, .ref (G.2.2 1037)), (1, .int xv1), (2, .int xv2)]) C.1.1 C.1.2.1 dX1_isSpecific_55 hl (k := 3) rfl g5 (by decide) rfl (fun ls hl => ?_)
      refine lv_goto (tgt := 16) C.1.1 C.1.2.1 dX1_isSpecific_58 (by decide) ?_
      exact hP16 t5 hw hS (lv_sub hl [1, 2, 3, 0] rfl) h
    · have h := h.2 c4
      refine lv_aload_n C.1.1 C.1.2.1 dX1_isSpecific_29 rfl (lv_at hl 0 rfl) ?_
      obtain ⟨x_6, e6⟩ : ∃ z : Int, z = S 1037 0 := ⟨_, rfl⟩
      obtain ⟨o6, h⟩ := h x_6 e6
      refine y_getO C fl_X1_25 hw (ock_1 SB) rfl e6 o6 dX1_isSpecific_30 ?_
      refine lv_aload_n C.1.1 C.1.2.1 dX1_isSpecific_33 rfl (lv_at hl 0 rfl) ?_
      refine lv_aload_n C.1.1 C.1.2.1 dX1_isSpecific_34 rfl (lv_at hl 0 rfl) ?_
      refine y_getA C fl_X1_9 hw (ock_1 SB) rfl (o := 1) rfl dX1_isSpecific_35 ?_
      refine lv_iload_n C.1.1 C.1.2.1 dX1_isSpecific_38 rfl (lv_at hl 3 rfl) ?_
      obtain ⟨b8, h⟩ := h
      refine y_iald C hw (ack_1_1 SB) xt3 b8 dX1_isSpecific_39 (fun v8 t8 => ?_)
      refine y_cVOp C (As := [.int v8]) (rest := [.ref (G.2.2 (x_6).toNat)]) ml_X1_38 (kX1_memberOf l G SB S t8 h) (ock_1 SB) (T := TX1) (N := 8) rfl (by decide) ⟨(Nat.le_of_ble_eq_true rfl), (Nat.le_of_ble_eq_true rfl)⟩ hl.1 rfl rfl (Nat.le_of_ble_eq_true rfl) hw hS dX1_isSpecific_40 (fun x_9 H locs o9 h hw hS => ?_)
      refine y_getI C fl_X1_85 hw (oc_of SB o9) rfl dX1_isSpecific_43 (fun v10 t10 => ?_)
      refine lv_iload_n C.1.1 C.1.2.1 dX1_isSpecific_46 rfl (lv_at hl 2 rfl) ?_
      refine y_cVIp C (As := [.int v10, .int xv2]) (rest := []) ml_X1_88 (kX2_isUnder l G SB S o6 t10 xt2 h) (oc_of SB o6) (T := TX2) (N := 9) rfl (by decide) ⟨(Nat.le_of_ble_eq_true rfl), (Nat.le_of_ble_eq_true rfl)⟩ hl.1 rfl rfl (Nat.le_of_ble_eq_true rfl) hw hS dX1_isSpecific_47 (fun v11 x_11 H locs t11 h hw hS => ?_)
      refine y_if_eq C t11 dX1_isSpecific_50 (tgt := 55) (by decide) (fun c12 => ?_) (fun c12 => ?_)
      · have h := h.1 c12
        obtain ⟨x_13, e13⟩ : ∃ z : Int, z = w32 (x3 + 1) := ⟨_, rfl⟩
        have h := h x_13 e13
        obtain ⟨v13, t13, g13⟩ : ∃ z : Int32, z.toInt = x_13 ∧ xv3 + Int32.ofInt 1 = z := ⟨_, (ti_inc xt3 ⟨by decide, by decide⟩).trans e13.symm, rfl⟩
        refine lv_iinc (v := v13) (lv' := [(3, .int v13), (0, .ref (G.2.2 1037)), (1, .int xv1), (2, .int xv2)]) C.1.1 C.1.2.1 dX1_isSpecific_55 hl (k := 3) rfl g13 (by decide) rfl (fun ls hl => ?_)
        refine lv_goto (tgt := 16) C.1.1 C.1.2.1 dX1_isSpecific_58 (by decide) ?_
        exact hP16 t13 hw hS (lv_sub hl [1, 2, 3, 0] rfl) h
      · have h := h.2 c12
        refine y_iconst C dX1_isSpecific_53 ⟨by decide, by decide⟩ (fun v14 t14 => ?_)
        exact y_zret C hw hS t14 (Or.inl rfl) ⟨h, rfl⟩ dX1_isSpecific_54
set_option maxHeartbeats 4000000 in
set_option maxRecDepth 10000 in
theorem uX1_isSpecific_16 {p : Program} {l : Launch} {e : Env} {s : State} {m : MethodId} {args : Array Value} {below : List Frame} {meth : Method} {c : Code} {G : GG} {SB : St} (C : Cx p s m args meth c G RX1 cX1_isSpecific 4 (some .boolean)) {S : St} {H : Heap} {locs : List Loc} {ls : Array Slot}  {k : Int → Prop} (hw : Wd G ((injC SB) S) H) (hS : va_S (AG G) s.heap H locs) {xv1 : Int32} {x1 : Int} (xt1 : xv1.toInt = x1) {xv2 : Int32} {x2 : Int} (xt2 : xv2.toInt = x2) {xv3 : Int32} {x3 : Int} (xt3 : xv3.toInt = x3) (hl : lv_has ls 4 [(0, .ref (G.2.2 1037)), (1, .int xv1), (2, .int xv2), (3, .int xv3)])  (h : wX1_isSpecific_16 S x1 x2 x3 k) : W p l e (rmF 1 22) s m args below meth c H locs 0 0 (MQ below (QcI G (injC SB) (fun r u => k r ∧ u = S)) args s 0 0 (AG G)) (F0 m 16 ls []) := by
  have key : ∀ (n : Nat) {H : Heap} {locs : List Loc} {ls : Array Slot} {xv3 : Int32} {x3 : Int}, xv3.toInt = x3 → Wd G ((injC SB) S) H → va_S (AG G) s.heap H locs → lv_has ls 4 [(0, .ref (G.2.2 1037)), (1, .int xv1), (2, .int xv2), (3, .int xv3)] → itP (fun (P : Int → Prop) (a : Int) => wX1_isSpecific_16_b S x1 x2 a (fun b0 => P (b0)) k) n (x3) → W p l e (rmF 1 22) s m args below meth c H locs 0 0 (MQ below (QcI G (injC SB) (fun r u => k r ∧ u = S)) args s 0 0 (AG G)) (F0 m 16 ls []) := by
    intro n
    induction n with
    | zero => intro H locs ls xv3 x3 xt3 hw hS hl h; exact h.elim
    | succ n ih =>
      intro H locs ls xv3 x3 xt3 hw hS hl h
      exact uX1_isSpecific_16_b C hw hS xt1 xt2 xt3 hl  (P16 := fun b0 => itP _ n (b0)) (fun q0 hw hS hl h => ih q0 hw hS hl h) h
  obtain ⟨n, hn⟩ := h
  exact key n xt3 hw hS hl hn
set_option maxHeartbeats 4000000 in
set_option maxRecDepth 10000 in
theorem uX1_isSpecific_0 {p : Program} {l : Launch} {e : Env} {s : State} {m : MethodId} {args : Array Value} {below : List Frame} {meth : Method} {c : Code} {G : GG} {SB : St} (C : Cx p s m args meth c G RX1 cX1_isSpecific 4 (some .boolean)) {S : St} {H : Heap} {locs : List Loc} {ls : Array Slot}  {k : Int → Prop} (hw : Wd G ((injC SB) S) H) (hS : va_S (AG G) s.heap H locs) {xv1 : Int32} {x1 : Int} (xt1 : xv1.toInt = x1) (hl : lv_has ls 4 [(0, .ref (G.2.2 1037)), (1, .int xv1)])  (h : wX1_isSpecific_0 S x1 k) : W p l e (rmF 1 22) s m args below meth c H locs 0 0 (MQ below (QcI G (injC SB) (fun r u => k r ∧ u = S)) args s 0 0 (AG G)) (F0 m 0 ls []) := by
  refine lv_aload_n C.1.1 C.1.2.1 dX1_isSpecific_0 rfl (lv_at hl 0 rfl) ?_
  refine lv_aload_n C.1.1 C.1.2.1 dX1_isSpecific_1 rfl (lv_at hl 0 rfl) ?_
  refine y_getA C fl_X1_9 hw (ock_1 SB) rfl (o := 1) rfl dX1_isSpecific_2 ?_
  refine lv_iload_n C.1.1 C.1.2.1 dX1_isSpecific_5 rfl (lv_at hl 1 rfl) ?_
  obtain ⟨b2, h⟩ := h
  refine y_iald C hw (ack_1_1 SB) xt1 b2 dX1_isSpecific_6 (fun v2 t2 => ?_)
  refine y_cVOp C (As := [.int v2]) (rest := []) ml_X1_38 (kX1_memberOf l G SB S t2 h) (ock_1 SB) (T := TX1) (N := 8) rfl (by decide) ⟨(Nat.le_of_ble_eq_true rfl), (Nat.le_of_ble_eq_true rfl)⟩ hl.1 rfl rfl (Nat.le_of_ble_eq_true rfl) hw hS dX1_isSpecific_7 (fun x_3 H locs o3 h hw hS => ?_)
  refine y_getI C fl_X1_85 hw (oc_of SB o3) rfl dX1_isSpecific_10 (fun v4 t4 => ?_)
  obtain ⟨x_5, e5⟩ : ∃ z : Int, z = S x_3 1 := ⟨_, rfl⟩
  have h := h x_5 e5
  have t5 := t4.trans e5.symm
  refine lv_istore_n (lv' := [(2, .int v4), (0, .ref (G.2.2 1037)), (1, .int xv1)]) C.1.1 C.1.2.1 dX1_isSpecific_13 rfl hl (by decide) rfl (fun ls hl => ?_)
  refine y_iconst C dX1_isSpecific_14 ⟨by decide, by decide⟩ (fun v6 t6 => ?_)
  refine lv_istore_n (lv' := [(3, .int v6), (2, .int v4), (0, .ref (G.2.2 1037)), (1, .int xv1)]) C.1.1 C.1.2.1 dX1_isSpecific_15 rfl hl (by decide) rfl (fun ls hl => ?_)
  exact uX1_isSpecific_16 C hw hS xt1 t5 t6 (lv_sub hl [2, 3, 1, 0] rfl)  h
theorem kX1_isSpecific (l : Launch) (G : GG) (SB S : St) {xv1 : Int32} {x1 : Int} (xt1 : xv1.toInt = x1) {k : Int → Prop} (h : wX1_isSpecific S x1 k) : CnI l yX1_isSpecific cX1_isSpecific 4 (some .boolean) 1 22 G (injC SB) [.ref (G.2.2 1037), .int xv1] S (fun r u => k r ∧ u = S) :=
  cn_body (by decide +kernel) (Nat.le_of_ble_eq_true rfl) (fun p e s m args below meth c ls C hw hl => uX1_isSpecific_0 C hw va_S.rf xt1 (lv_sub hl [0, 1] rfl) h)
set_option maxHeartbeats 4000000 in
set_option maxRecDepth 10000 in
theorem uX1_soleBody_5_b {p : Program} {l : Launch} {e : Env} {s : State} {m : MethodId} {args : Array Value} {below : List Frame} {meth : Method} {c : Code} {G : GG} {SB : St} (C : Cx p s m args meth c G RX1 cX1_soleBody 3 (some .int)) {S : St} {H : Heap} {locs : List Loc} {ls : Array Slot}  {P5 : Int → Int → Prop} {k : Int → Prop} (hw : Wd G ((injC SB) S) H) (hS : va_S (AG G) s.heap H locs) {xv1 : Int32} {x1 : Int} (xt1 : xv1.toInt = x1) {xv2 : Int32} {x2 : Int} (xt2 : xv2.toInt = x2) (hl : lv_has ls 3 [(0, .ref (G.2.2 1037)), (1, .int xv1), (2, .int xv2)])  (hP5 : ∀ {H : Heap} {locs : List Loc} {ls : Array Slot} {yv1 : Int32} {y1 : Int} {yv2 : Int32} {y2 : Int}, yv1.toInt = y1 → yv2.toInt = y2 → Wd G ((injC SB) S) H → va_S (AG G) s.heap H locs → lv_has ls 3 [(0, .ref (G.2.2 1037)), (1, .int yv1), (2, .int yv2)] → P5 y1 y2 → W p l e (rmF 2 45) s m args below meth c H locs 0 0 (MQ below (QcI G (injC SB) (fun r u => k r ∧ u = S)) args s 0 0 (AG G)) (F0 m 5 ls [])) (h : wX1_soleBody_5_b S x1 x2 P5 k) : W p l e (rmF 2 45) s m args below meth c H locs 0 0 (MQ below (QcI G (injC SB) (fun r u => k r ∧ u = S)) args s 0 0 (AG G)) (F0 m 5 ls []) := by
  refine lv_iload_n C.1.1 C.1.2.1 dX1_soleBody_5 rfl (lv_at hl 2 rfl) ?_
  refine lv_aload_n C.1.1 C.1.2.1 dX1_soleBody_6 rfl (lv_at hl 0 rfl) ?_
  refine y_getI C fl_X1_73 hw (ock_1 SB) rfl dX1_soleBody_7 (fun v1 t1 => ?_)
  refine y_icmp_ge C xt2 t1 dX1_soleBody_10 (tgt := 56) (by decide) (fun c2 => ?_) (fun c2 => ?_)
  · have h := h.1 c2
    refine lv_iload_n C.1.1 C.1.2.1 dX1_soleBody_56 rfl (lv_at hl 1 rfl) ?_
    exact y_iret C hw hS xt1 ⟨h, rfl⟩ dX1_soleBody_57
  · have h := h.2 c2
    refine lv_aload_n C.1.1 C.1.2.1 dX1_soleBody_13 rfl (lv_at hl 0 rfl) ?_
    refine lv_aload_n C.1.1 C.1.2.1 dX1_soleBody_14 rfl (lv_at hl 0 rfl) ?_
    refine y_getA C fl_X1_9 hw (ock_1 SB) rfl (o := 1) rfl dX1_soleBody_15 ?_
    refine lv_iload_n C.1.1 C.1.2.1 dX1_soleBody_18 rfl (lv_at hl 2 rfl) ?_
    obtain ⟨b4, h⟩ := h
    refine y_iald C hw (ack_1_1 SB) xt2 b4 dX1_soleBody_19 (fun v4 t4 => ?_)
    refine y_cVIp C (As := [.int v4]) (rest := []) ml_X1_92 (kX1_isAbstract l G SB S t4 h) (ock_1 SB) (T := TX1) (N := 8) rfl (by decide) ⟨(Nat.le_of_ble_eq_true rfl), (Nat.le_of_ble_eq_true rfl)⟩ hl.1 rfl rfl (Nat.le_of_ble_eq_true rfl) hw hS dX1_soleBody_20 (fun v5 x_5 H locs t5 h hw hS => ?_)
    refine y_if_ne C t5 dX1_soleBody_23 (tgt := 50) (by decide) (fun c6 => ?_) (fun c6 => ?_)
    · have h := h.1 c6
      obtain ⟨x_7, e7⟩ : ∃ z : Int, z = w32 (x2 + 1) := ⟨_, rfl⟩
      have h := h x_7 e7
      obtain ⟨v7, t7, g7⟩ : ∃ z : Int32, z.toInt = x_7 ∧ xv2 + Int32.ofInt 1 = z := ⟨_, (ti_inc xt2 ⟨by decide, by decide⟩).trans e7.symm, rfl⟩
      refine lv_iinc (v := v7) (lv' := [(2, .int v7), (0, .ref (G.2.2 1037)), (1, .int xv1)]) C.1.1 C.1.2.1 dX1_soleBody_50 hl (k := 2) rfl g7 (by decide) rfl (fun ls hl => ?_)
      refine lv_goto (tgt := 5) C.1.1 C.1.2.1 dX1_soleBody_53 (by decide) ?_
      exact hP5 xt1 t7 hw hS (lv_sub hl [1, 2, 0] rfl) h
    · have h := h.2 c6
      refine lv_aload_n C.1.1 C.1.2.1 dX1_soleBody_26 rfl (lv_at hl 0 rfl) ?_
      refine lv_iload_n C.1.1 C.1.2.1 dX1_soleBody_27 rfl (lv_at hl 2 rfl) ?_
      refine y_cVIp C (As := [.int xv2]) (rest := []) ml_X1_96 (kX1_isSpecific l G SB S xt2 h) (ock_1 SB) (T := TX1) (N := 8) rfl (by decide) ⟨(Nat.le_of_ble_eq_true rfl), (Nat.le_of_ble_eq_true rfl)⟩ hl.1 rfl rfl (Nat.le_of_ble_eq_true rfl) hw hS dX1_soleBody_28 (fun v8 x_8 H locs t8 h hw hS => ?_)
      refine y_if_eq C t8 dX1_soleBody_31 (tgt := 50) (by decide) (fun c9 => ?_) (fun c9 => ?_)
      · have h := h.1 c9
        obtain ⟨x_10, e10⟩ : ∃ z : Int, z = w32 (x2 + 1) := ⟨_, rfl⟩
        have h := h x_10 e10
        obtain ⟨v10, t10, g10⟩ : ∃ z : Int32, z.toInt = x_10 ∧ xv2 + Int32.ofInt 1 = z := ⟨_, (ti_inc xt2 ⟨by decide, by decide⟩).trans e10.symm, rfl⟩
        refine lv_iinc (v := v10) (lv' := [(2, .int v10), (0, .ref (G.2.2 1037)), (1, .int xv1)]) C.1.1 C.1.2.1 dX1_soleBody_50 hl (k := 2) rfl g10 (by decide) rfl (fun ls hl => ?_)
        refine lv_goto (tgt := 5) C.1.1 C.1.2.1 dX1_soleBody_53 (by decide) ?_
        exact hP5 xt1 t10 hw hS (lv_sub hl [1, 2, 0] rfl) h
      · have h := h.2 c9
        refine lv_iload_n C.1.1 C.1.2.1 dX1_soleBody_34 rfl (lv_at hl 1 rfl) ?_
        refine y_bipush C dX1_soleBody_35 ⟨by decide, by decide⟩ (fun v11 t11 => ?_)
        refine y_icmp_eq C xt1 t11 dX1_soleBody_37 (tgt := 43) (by decide) (fun c12 => ?_) (fun c12 => ?_)
        · have h := h.1 c12
          refine lv_aload_n C.1.1 C.1.2.1 dX1_soleBody_43 rfl (lv_at hl 0 rfl) ?_
          refine y_getA C fl_X1_9 hw (ock_1 SB) rfl (o := 1) rfl dX1_soleBody_44 ?_
          refine lv_iload_n C.1.1 C.1.2.1 dX1_soleBody_47 rfl (lv_at hl 2 rfl) ?_
          obtain ⟨b14, h⟩ := h
          refine y_iald C hw (ack_1_1 SB) xt2 b14 dX1_soleBody_48 (fun v14 t14 => ?_)
          obtain ⟨x_15, e15⟩ : ∃ z : Int, z = S 1038 x2 := ⟨_, rfl⟩
          have h := h x_15 e15
          have t15 := t14.trans e15.symm
          refine lv_istore_n (lv' := [(1, .int v14), (0, .ref (G.2.2 1037)), (2, .int xv2)]) C.1.1 C.1.2.1 dX1_soleBody_49 rfl hl (by decide) rfl (fun ls hl => ?_)
          obtain ⟨x_16, e16⟩ : ∃ z : Int, z = w32 (x2 + 1) := ⟨_, rfl⟩
          have h := h x_16 e16
          obtain ⟨v16, t16, g16⟩ : ∃ z : Int32, z.toInt = x_16 ∧ xv2 + Int32.ofInt 1 = z := ⟨_, (ti_inc xt2 ⟨by decide, by decide⟩).trans e16.symm, rfl⟩
          refine lv_iinc (v := v16) (lv' := [(2, .int v16), (1, .int v14), (0, .ref (G.2.2 1037))]) C.1.1 C.1.2.1 dX1_soleBody_50 hl (k := 2) rfl g16 (by decide) rfl (fun ls hl => ?_)
          refine lv_goto (tgt := 5) C.1.1 C.1.2.1 dX1_soleBody_53 (by decide) ?_
          exact hP5 t15 t16 hw hS (lv_sub hl [2, 1, 0] rfl) h
        · have h := h.2 c12
          refine y_bipush C dX1_soleBody_40 ⟨by decide, by decide⟩ (fun v17 t17 => ?_)
          exact y_iret C hw hS t17 ⟨h, rfl⟩ dX1_soleBody_42
set_option maxHeartbeats 4000000 in
set_option maxRecDepth 10000 in
theorem uX1_soleBody_5 {p : Program} {l : Launch} {e : Env} {s : State} {m : MethodId} {args : Array Value} {below : List Frame} {meth : Method} {c : Code} {G : GG} {SB : St} (C : Cx p s m args meth c G RX1 cX1_soleBody 3 (some .int)) {S : St} {H : Heap} {locs : List Loc} {ls : Array Slot}  {k : Int → Prop} (hw : Wd G ((injC SB) S) H) (hS : va_S (AG G) s.heap H locs) {xv1 : Int32} {x1 : Int} (xt1 : xv1.toInt = x1) {xv2 : Int32} {x2 : Int} (xt2 : xv2.toInt = x2) (hl : lv_has ls 3 [(0, .ref (G.2.2 1037)), (1, .int xv1), (2, .int xv2)])  (h : wX1_soleBody_5 S x1 x2 k) : W p l e (rmF 2 45) s m args below meth c H locs 0 0 (MQ below (QcI G (injC SB) (fun r u => k r ∧ u = S)) args s 0 0 (AG G)) (F0 m 5 ls []) := by
  have key : ∀ (n : Nat) {H : Heap} {locs : List Loc} {ls : Array Slot} {xv1 : Int32} {x1 : Int} {xv2 : Int32} {x2 : Int}, xv1.toInt = x1 → xv2.toInt = x2 → Wd G ((injC SB) S) H → va_S (AG G) s.heap H locs → lv_has ls 3 [(0, .ref (G.2.2 1037)), (1, .int xv1), (2, .int xv2)] → itP (fun (P : Int × Int → Prop) (a : Int × Int) => wX1_soleBody_5_b S a.1 a.2 (fun b0 b1 => P (b0, b1)) k) n (x1, x2) → W p l e (rmF 2 45) s m args below meth c H locs 0 0 (MQ below (QcI G (injC SB) (fun r u => k r ∧ u = S)) args s 0 0 (AG G)) (F0 m 5 ls []) := by
    intro n
    induction n with
    | zero => intro H locs ls xv1 x1 xv2 x2 xt1 xt2 hw hS hl h; exact h.elim
    | succ n ih =>
      intro H locs ls xv1 x1 xv2 x2 xt1 xt2 hw hS hl h
      exact uX1_soleBody_5_b C hw hS xt1 xt2 hl  (P5 := fun b0 b1 => itP _ n (b0, b1)) (fun q0 q1 hw hS hl h => ih q0 q1 hw hS hl h) h
  obtain ⟨n, hn⟩ := h
  exact key n xt1 xt2 hw hS hl hn
set_option maxHeartbeats 4000000 in
set_option maxRecDepth 10000 in
theorem uX1_soleBody_0 {p : Program} {l : Launch} {e : Env} {s : State} {m : MethodId} {args : Array Value} {below : List Frame} {meth : Method} {c : Code} {G : GG} {SB : St} (C : Cx p s m args meth c G RX1 cX1_soleBody 3 (some .int)) {S : St} {H : Heap} {locs : List Loc} {ls : Array Slot}  {k : Int → Prop} (hw : Wd G ((injC SB) S) H) (hS : va_S (AG G) s.heap H locs)  (hl : lv_has ls 3 [(0, .ref (G.2.2 1037))])  (h : wX1_soleBody_0 S k) : W p l e (rmF 2 45) s m args below meth c H locs 0 0 (MQ below (QcI G (injC SB) (fun r u => k r ∧ u = S)) args s 0 0 (AG G)) (F0 m 0 ls []) := by
  refine y_bipush C dX1_soleBody_0 ⟨by decide, by decide⟩ (fun v1 t1 => ?_)
  refine lv_istore_n (lv' := [(1, .int v1), (0, .ref (G.2.2 1037))]) C.1.1 C.1.2.1 dX1_soleBody_2 rfl hl (by decide) rfl (fun ls hl => ?_)
  refine y_iconst C dX1_soleBody_3 ⟨by decide, by decide⟩ (fun v2 t2 => ?_)
  refine lv_istore_n (lv' := [(2, .int v2), (1, .int v1), (0, .ref (G.2.2 1037))]) C.1.1 C.1.2.1 dX1_soleBody_4 rfl hl (by decide) rfl (fun ls hl => ?_)
  exact uX1_soleBody_5 C hw hS t1 t2 (lv_sub hl [2, 1, 0] rfl)  h
theorem kX1_soleBody (l : Launch) (G : GG) (SB S : St)  {k : Int → Prop} (h : wX1_soleBody S k) : CnI l yX1_soleBody cX1_soleBody 3 (some .int) 2 45 G (injC SB) [.ref (G.2.2 1037)] S (fun r u => k r ∧ u = S) :=
  cn_body (by decide +kernel) (Nat.le_of_ble_eq_true rfl) (fun p e s m args below meth c ls C hw hl => uX1_soleBody_0 C hw va_S.rf  (lv_sub hl [0] rfl) h)
set_option maxHeartbeats 4000000 in
set_option maxRecDepth 10000 in
theorem uX1_find_80 {p : Program} {l : Launch} {e : Env} {s : State} {m : MethodId} {args : Array Value} {below : List Frame} {meth : Method} {c : Code} {G : GG} {SB : St} (C : Cx p s m args meth c G RX1 cX1_find 7 (some .int)) {S : St} {H : Heap} {locs : List Loc} {ls : Array Slot}  {k : Int → St → Prop} (hw : Wd G ((injC SB) S) H) (hS : va_S (AG G) s.heap H locs) {xv1 : Int32} {x1 : Int} (xt1 : xv1.toInt = x1) {xv2 : Int32} {x2 : Int} (xt2 : xv2.toInt = x2) (hl : lv_has ls 7 [(0, .ref (G.2.2 1037)), (1, .int xv1), (2, .int xv2)])  (h : wX1_find_80 S x1 x2 k) : W p l e (rmF 3 67) s m args below meth c H locs 0 0 (MQ below (QcI G (injC SB) k) args s 0 0 (AG G)) (F0 m 80 ls []) := by
  refine lv_aload_n C.1.1 C.1.2.1 dX1_find_80 rfl (lv_at hl 0 rfl) ?_
  refine lv_iload_n C.1.1 C.1.2.1 dX1_find_81 rfl (lv_at hl 1 rfl) ?_
  refine lv_iload_n C.1.1 C.1.2.1 dX1_find_82 rfl (lv_at hl 2 rfl) ?_
  refine y_cVV C (As := [.int xv1, .int xv2]) (rest := []) ml_X1_65 (kX1_gatherFaces l G SB S xt1 xt2 h) (ock_1 SB) (T := TX1) (N := 8) rfl (by decide) ⟨(Nat.le_of_ble_eq_true rfl), (Nat.le_of_ble_eq_true rfl)⟩ hl.1 rfl rfl (Nat.le_of_ble_eq_true rfl) hw hS dX1_find_83 (fun S_1 H locs h hw hS => ?_)
  refine lv_aload_n C.1.1 C.1.2.1 dX1_find_86 rfl (lv_at hl 0 rfl) ?_
  refine y_cVIp C (As := []) (rest := []) ml_X1_69 (kX1_soleBody l G SB S_1  h) (ock_1 SB) (T := TX1) (N := 8) rfl (by decide) ⟨(Nat.le_of_ble_eq_true rfl), (Nat.le_of_ble_eq_true rfl)⟩ hl.1 rfl rfl (Nat.le_of_ble_eq_true rfl) hw hS dX1_find_87 (fun v2 x_2 H locs t2 h hw hS => ?_)
  refine lv_istore (lv' := [(4, .int v2), (0, .ref (G.2.2 1037)), (1, .int xv1), (2, .int xv2)]) C.1.1 C.1.2.1 dX1_find_90 hl (by decide) rfl (fun ls hl => ?_)
  refine lv_iload C.1.1 C.1.2.1 dX1_find_92 (lv_at hl 0 rfl) ?_
  refine y_if_lt C t2 dX1_find_94 (tgt := 100) (by decide) (fun c3 => ?_) (fun c3 => ?_)
  · have h := h.1 c3
    refine lv_aload_n C.1.1 C.1.2.1 dX1_find_100 rfl (lv_at hl 1 rfl) ?_
    refine y_getI C fl_X1_73 hw (ock_1 SB) rfl dX1_find_101 (fun v4 t4 => ?_)
    refine y_if_le C t4 dX1_find_104 (tgt := 116) (by decide) (fun c5 => ?_) (fun c5 => ?_)
    · have h := h.1 c5
      refine y_iconst C dX1_find_116 ⟨by decide, by decide⟩ (fun v6 t6 => ?_)
      exact y_iret C hw hS t6 h dX1_find_117
    · have h := h.2 c5
      refine lv_aload_n C.1.1 C.1.2.1 dX1_find_107 rfl (lv_at hl 1 rfl) ?_
      refine y_getA C fl_X1_9 hw (ock_1 SB) rfl (o := 1) rfl dX1_find_108 ?_
      refine y_iconst C dX1_find_111 ⟨by decide, by decide⟩ (fun v8 t8 => ?_)
      refine y_iald C hw (ack_1_1 SB) t8 ⟨by decide, by decide⟩ dX1_find_112 (fun v9 t9 => ?_)
      refine lv_goto (tgt := 117) C.1.1 C.1.2.1 dX1_find_113 (by decide) ?_
      exact y_iret C hw hS t9 h dX1_find_117
  · have h := h.2 c3
    refine lv_iload C.1.1 C.1.2.1 dX1_find_97 (lv_at hl 0 rfl) ?_
    exact y_iret C hw hS t2 h dX1_find_99
set_option maxHeartbeats 4000000 in
set_option maxRecDepth 10000 in
theorem uX1_find_24_b {p : Program} {l : Launch} {e : Env} {s : State} {m : MethodId} {args : Array Value} {below : List Frame} {meth : Method} {c : Code} {G : GG} {SB : St} (C : Cx p s m args meth c G RX1 cX1_find 7 (some .int)) {S : St} {H : Heap} {locs : List Loc} {ls : Array Slot}  {P24 : Int → Int → Prop} {k : Int → St → Prop} (hw : Wd G ((injC SB) S) H) (hS : va_S (AG G) s.heap H locs) {xv1 : Int32} {x1 : Int} (xt1 : xv1.toInt = x1) {xv2 : Int32} {x2 : Int} (xt2 : xv2.toInt = x2) {xv3 : Int32} {x3 : Int} (xt3 : xv3.toInt = x3) {xv4 : Int32} {x4 : Int} (xt4 : xv4.toInt = x4) (hl : lv_has ls 7 [(0, .ref (G.2.2 1037)), (1, .int xv1), (2, .int xv2), (3, .int xv3), (4, .int xv4)])  (hP24 : ∀ {H : Heap} {locs : List Loc} {ls : Array Slot} {yv3 : Int32} {y3 : Int} {yv4 : Int32} {y4 : Int}, yv3.toInt = y3 → yv4.toInt = y4 → Wd G ((injC SB) S) H → va_S (AG G) s.heap H locs → lv_has ls 7 [(0, .ref (G.2.2 1037)), (1, .int xv1), (2, .int xv2), (3, .int yv3), (4, .int yv4)] → P24 y3 y4 → W p l e (rmF 3 67) s m args below meth c H locs 0 0 (MQ below (QcI G (injC SB) k) args s 0 0 (AG G)) (F0 m 24 ls [])) (h : wX1_find_24_b S x1 x2 x3 x4 P24 k) : W p l e (rmF 3 67) s m args below meth c H locs 0 0 (MQ below (QcI G (injC SB) k) args s 0 0 (AG G)) (F0 m 24 ls []) := by
  refine lv_iload C.1.1 C.1.2.1 dX1_find_24 (lv_at hl 4 rfl) ?_
  refine y_bipush C dX1_find_26 ⟨by decide, by decide⟩ (fun v1 t1 => ?_)
  refine y_icmp_ge C xt4 t1 dX1_find_28 (tgt := 80) (by decide) (fun c2 => ?_) (fun c2 => ?_)
  · have h := h.1 c2
    exact uX1_find_80 C hw hS xt1 xt2 (lv_sub hl [0, 1, 2] rfl)  h
  · have h := h.2 c2
    refine lv_iload_n C.1.1 C.1.2.1 dX1_find_31 rfl (lv_at hl 3 rfl) ?_
    refine y_iconst C dX1_find_32 ⟨by decide, by decide⟩ (fun v3 t3 => ?_)
    refine y_icmp_eq C xt3 t3 dX1_find_33 (tgt := 80) (by decide) (fun c4 => ?_) (fun c4 => ?_)
    · have h := h.1 c4
      exact uX1_find_80 C hw hS xt1 xt2 (lv_sub hl [0, 1, 2] rfl)  h
    · have h := h.2 c4
      refine lv_aload_n C.1.1 C.1.2.1 dX1_find_36 rfl (lv_at hl 0 rfl) ?_
      obtain ⟨x_5, e5⟩ : ∃ z : Int, z = S 1037 0 := ⟨_, rfl⟩
      obtain ⟨o5, h⟩ := h x_5 e5
      refine y_getO C fl_X1_25 hw (ock_1 SB) rfl e5 o5 dX1_find_37 ?_
      refine y_getA C fl_X1_48 hw (oc_of SB o5) rfl (o := 1) rfl dX1_find_40 ?_
      refine lv_iload_n C.1.1 C.1.2.1 dX1_find_43 rfl (lv_at hl 3 rfl) ?_
      obtain ⟨b7, h⟩ := h
      obtain ⟨x_7, e7⟩ : ∃ z : Int, z = x_5 + 6 + 6 * x3 := ⟨_, rfl⟩
      have h := h x_7 e7
      have o7 : isO 6 x_7 := isO_ty o5 b7 e7
      refine y_tyO C hw o5 xt3 b7 e7 dX1_find_44 ?_
      refine lv_astore (lv' := [(5, .ref (G.2.2 (x_7).toNat)), (0, .ref (G.2.2 1037)), (1, .int xv1), (2, .int xv2), (3, .int xv3), (4, .int xv4)]) C.1.1 C.1.2.1 dX1_find_45 hl (by decide) rfl (fun ls hl => ?_)
      refine lv_aload_n C.1.1 C.1.2.1 dX1_find_47 rfl (lv_at hl 1 rfl) ?_
      obtain ⟨x_8, e8⟩ : ∃ z : Int, z = S 1037 0 := ⟨_, rfl⟩
      obtain ⟨o8, h⟩ := h x_8 e8
      refine y_getO C fl_X1_25 hw (ock_1 SB) rfl e8 o8 dX1_find_48 ?_
      refine lv_aload C.1.1 C.1.2.1 dX1_find_51 (lv_at hl 0 rfl) ?_
      refine lv_iload_n C.1.1 C.1.2.1 dX1_find_53 rfl (lv_at hl 3 rfl) ?_
      refine y_cVIp C (As := [.ref (G.2.2 (x_7).toNat), .int xv2]) (rest := []) ml_X1_58 (kX2_methodIn l G SB S o8 o7 xt2 h) (oc_of SB o8) (T := TX2) (N := 9) rfl (by decide) ⟨(Nat.le_of_ble_eq_true rfl), (Nat.le_of_ble_eq_true rfl)⟩ hl.1 rfl rfl (Nat.le_of_ble_eq_true rfl) hw hS dX1_find_54 (fun v9 x_9 H locs t9 h hw hS => ?_)
      refine lv_istore (lv' := [(6, .int v9), (5, .ref (G.2.2 (x_7).toNat)), (0, .ref (G.2.2 1037)), (1, .int xv1), (2, .int xv2), (3, .int xv3), (4, .int xv4)]) C.1.1 C.1.2.1 dX1_find_57 hl (by decide) rfl (fun ls hl => ?_)
      refine lv_iload C.1.1 C.1.2.1 dX1_find_59 (lv_at hl 0 rfl) ?_
      refine y_iconst C dX1_find_61 ⟨by decide, by decide⟩ (fun v10 t10 => ?_)
      refine y_icmp_eq C t9 t10 dX1_find_62 (tgt := 68) (by decide) (fun c11 => ?_) (fun c11 => ?_)
      · have h := h.1 c11
        refine lv_aload C.1.1 C.1.2.1 dX1_find_68 (lv_at hl 1 rfl) ?_
        refine y_getI C fl_X1_62 hw (oc_of SB o7) rfl dX1_find_70 (fun v12 t12 => ?_)
        obtain ⟨x_13, e13⟩ : ∃ z : Int, z = S x_7 11 := ⟨_, rfl⟩
        have h := h x_13 e13
        have t13 := t12.trans e13.symm
        refine lv_istore_n (lv' := [(3, .int v12), (6, .int v9), (5, .ref (G.2.2 (x_7).toNat)), (0, .ref (G.2.2 1037)), (1, .int xv1), (2, .int xv2), (4, .int xv4)]) C.1.1 C.1.2.1 dX1_find_73 rfl hl (by decide) rfl (fun ls hl => ?_)
        obtain ⟨x_14, e14⟩ : ∃ z : Int, z = w32 (x4 + 1) := ⟨_, rfl⟩
        have h := h x_14 e14
        obtain ⟨v14, t14, g14⟩ : ∃ z : Int32, z.toInt = x_14 ∧ xv4 + Int32.ofInt 1 = z := ⟨_, (ti_inc xt4 ⟨by decide, by decide⟩).trans e14.symm, rfl⟩
        refine lv_iinc (v := v14) (lv' := [(4, .int v14), (3, .int v12), (6, .int v9), (5, .ref (G.2.2 (x_7).toNat)), (0, .ref (G.2.2 1037)), (1, .int xv1), (2, .int xv2)]) C.1.1 C.1.2.1 dX1_find_74 hl (k := 6) rfl g14 (by decide) rfl (fun ls hl => ?_)
        refine lv_goto (tgt := 24) C.1.1 C.1.2.1 dX1_find_77 (by decide) ?_
        exact hP24 t13 t14 hw hS (lv_sub hl [4, 5, 6, 1, 0] rfl) h
      · have h := h.2 c11
        refine lv_iload C.1.1 C.1.2.1 dX1_find_65 (lv_at hl 0 rfl) ?_
        exact y_iret C hw hS t9 h dX1_find_67
set_option maxHeartbeats 4000000 in
set_option maxRecDepth 10000 in
theorem uX1_find_24 {p : Program} {l : Launch} {e : Env} {s : State} {m : MethodId} {args : Array Value} {below : List Frame} {meth : Method} {c : Code} {G : GG} {SB : St} (C : Cx p s m args meth c G RX1 cX1_find 7 (some .int)) {S : St} {H : Heap} {locs : List Loc} {ls : Array Slot}  {k : Int → St → Prop} (hw : Wd G ((injC SB) S) H) (hS : va_S (AG G) s.heap H locs) {xv1 : Int32} {x1 : Int} (xt1 : xv1.toInt = x1) {xv2 : Int32} {x2 : Int} (xt2 : xv2.toInt = x2) {xv3 : Int32} {x3 : Int} (xt3 : xv3.toInt = x3) {xv4 : Int32} {x4 : Int} (xt4 : xv4.toInt = x4) (hl : lv_has ls 7 [(0, .ref (G.2.2 1037)), (1, .int xv1), (2, .int xv2), (3, .int xv3), (4, .int xv4)])  (h : wX1_find_24 S x1 x2 x3 x4 k) : W p l e (rmF 3 67) s m args below meth c H locs 0 0 (MQ below (QcI G (injC SB) k) args s 0 0 (AG G)) (F0 m 24 ls []) := by
  have key : ∀ (n : Nat) {H : Heap} {locs : List Loc} {ls : Array Slot} {xv3 : Int32} {x3 : Int} {xv4 : Int32} {x4 : Int}, xv3.toInt = x3 → xv4.toInt = x4 → Wd G ((injC SB) S) H → va_S (AG G) s.heap H locs → lv_has ls 7 [(0, .ref (G.2.2 1037)), (1, .int xv1), (2, .int xv2), (3, .int xv3), (4, .int xv4)] → itP (fun (P : Int × Int → Prop) (a : Int × Int) => wX1_find_24_b S x1 x2 a.1 a.2 (fun b0 b1 => P (b0, b1)) k) n (x3, x4) → W p l e (rmF 3 67) s m args below meth c H locs 0 0 (MQ below (QcI G (injC SB) k) args s 0 0 (AG G)) (F0 m 24 ls []) := by
    intro n
    induction n with
    | zero => intro H locs ls xv3 x3 xv4 x4 xt3 xt4 hw hS hl h; exact h.elim
    | succ n ih =>
      intro H locs ls xv3 x3 xv4 x4 xt3 xt4 hw hS hl h
      exact uX1_find_24_b C hw hS xt1 xt2 xt3 xt4 hl  (P24 := fun b0 b1 => itP _ n (b0, b1)) (fun q0 q1 hw hS hl h => ih q0 q1 hw hS hl h) h
  obtain ⟨n, hn⟩ := h
  exact key n xt3 xt4 hw hS hl hn
set_option maxHeartbeats 4000000 in
set_option maxRecDepth 10000 in
theorem uX1_find_0 {p : Program} {l : Launch} {e : Env} {s : State} {m : MethodId} {args : Array Value} {below : List Frame} {meth : Method} {c : Code} {G : GG} {SB : St} (C : Cx p s m args meth c G RX1 cX1_find 7 (some .int)) {S : St} {H : Heap} {locs : List Loc} {ls : Array Slot}  {k : Int → St → Prop} (hw : Wd G ((injC SB) S) H) (hS : va_S (AG G) s.heap H locs) {xv1 : Int32} {x1 : Int} (xt1 : xv1.toInt = x1) {xv2 : Int32} {x2 : Int} (xt2 : xv2.toInt = x2) (hl : lv_has ls 7 [(0, .ref (G.2.2 1037)), (1, .int xv1), (2, .int xv2)])  (h : wX1_find_0 S x1 x2 k) : W p l e (rmF 3 67) s m args below meth c H locs 0 0 (MQ below (QcI G (injC SB) k) args s 0 0 (AG G)) (F0 m 0 ls []) := by
  refine lv_aload_n C.1.1 C.1.2.1 dX1_find_0 rfl (lv_at hl 0 rfl) ?_
  obtain ⟨x_1, e1⟩ : ∃ z : Int, z = S 1037 0 := ⟨_, rfl⟩
  obtain ⟨o1, h⟩ := h x_1 e1
  refine y_getO C fl_X1_25 hw (ock_1 SB) rfl e1 o1 dX1_find_1 ?_
  refine y_getA C fl_X1_48 hw (oc_of SB o1) rfl (o := 1) rfl dX1_find_4 ?_
  refine lv_iload_n C.1.1 C.1.2.1 dX1_find_7 rfl (lv_at hl 1 rfl) ?_
  obtain ⟨b3, h⟩ := h
  obtain ⟨x_3, e3⟩ : ∃ z : Int, z = x_1 + 6 + 6 * x1 := ⟨_, rfl⟩
  have h := h x_3 e3
  have o3 : isO 6 x_3 := isO_ty o1 b3 e3
  refine y_tyO C hw o1 xt1 b3 e3 dX1_find_8 ?_
  refine y_cVIp C (As := []) (rest := []) ml_X1_52 (kX6_isFace l G SB S o3 h) (oc_of SB o3) (T := TX6) (N := 20) rfl (by decide) ⟨(Nat.le_of_ble_eq_true rfl), (Nat.le_of_ble_eq_true rfl)⟩ hl.1 rfl rfl (Nat.le_of_ble_eq_true rfl) hw hS dX1_find_9 (fun v4 x_4 H locs t4 h hw hS => ?_)
  refine y_if_eq C t4 dX1_find_12 (tgt := 19) (by decide) (fun c5 => ?_) (fun c5 => ?_)
  · have h := h.1 c5
    refine lv_iload_n C.1.1 C.1.2.1 dX1_find_19 rfl (lv_at hl 1 rfl) ?_
    refine lv_istore_n (lv' := [(3, .int xv1), (0, .ref (G.2.2 1037)), (1, .int xv1), (2, .int xv2)]) C.1.1 C.1.2.1 dX1_find_20 rfl hl (by decide) rfl (fun ls hl => ?_)
    refine y_iconst C dX1_find_21 ⟨by decide, by decide⟩ (fun v6 t6 => ?_)
    refine lv_istore (lv' := [(4, .int v6), (3, .int xv1), (0, .ref (G.2.2 1037)), (1, .int xv1), (2, .int xv2)]) C.1.1 C.1.2.1 dX1_find_22 hl (by decide) rfl (fun ls hl => ?_)
    exact uX1_find_24 C hw hS xt1 xt2 xt1 t6 (lv_sub hl [2, 3, 4, 1, 0] rfl)  h
  · have h := h.2 c5
    refine y_iconst C dX1_find_15 ⟨by decide, by decide⟩ (fun v7 t7 => ?_)
    refine lv_goto (tgt := 20) C.1.1 C.1.2.1 dX1_find_16 (by decide) ?_
    refine lv_istore_n (lv' := [(3, .int v7), (0, .ref (G.2.2 1037)), (1, .int xv1), (2, .int xv2)]) C.1.1 C.1.2.1 dX1_find_20 rfl hl (by decide) rfl (fun ls hl => ?_)
    refine y_iconst C dX1_find_21 ⟨by decide, by decide⟩ (fun v8 t8 => ?_)
    refine lv_istore (lv' := [(4, .int v8), (3, .int v7), (0, .ref (G.2.2 1037)), (1, .int xv1), (2, .int xv2)]) C.1.1 C.1.2.1 dX1_find_22 hl (by decide) rfl (fun ls hl => ?_)
    exact uX1_find_24 C hw hS xt1 xt2 t7 t8 (lv_sub hl [2, 3, 4, 1, 0] rfl)  h
theorem kX1_find (l : Launch) (G : GG) (SB S : St) {xv1 : Int32} {x1 : Int} (xt1 : xv1.toInt = x1) {xv2 : Int32} {x2 : Int} (xt2 : xv2.toInt = x2) {k : Int → St → Prop} (h : wX1_find S x1 x2 k) : CnI l yX1_find cX1_find 7 (some .int) 3 67 G (injC SB) [.ref (G.2.2 1037), .int xv1, .int xv2] S k :=
  cn_body (by decide +kernel) (Nat.le_of_ble_eq_true rfl) (fun p e s m args below meth c ls C hw hl => uX1_find_0 C hw va_S.rf xt1 xt2 (lv_sub hl [0, 1, 2] rfl) h)
set_option maxHeartbeats 4000000 in
set_option maxRecDepth 10000 in
theorem uX1_specificAt_12_b {p : Program} {l : Launch} {e : Env} {s : State} {m : MethodId} {args : Array Value} {below : List Frame} {meth : Method} {c : Code} {G : GG} {SB : St} (C : Cx p s m args meth c G RX1 cX1_specificAt 6 (some .int)) {S : St} {H : Heap} {locs : List Loc} {ls : Array Slot}  {P12 : Int → Int → Prop} {k : Int → St → Prop} (hw : Wd G ((injC SB) S) H) (hS : va_S (AG G) s.heap H locs) {xv3 : Int32} {x3 : Int} (xt3 : xv3.toInt = x3) {xv4 : Int32} {x4 : Int} (xt4 : xv4.toInt = x4) {xv5 : Int32} {x5 : Int} (xt5 : xv5.toInt = x5) (hl : lv_has ls 6 [(0, .ref (G.2.2 1037)), (3, .int xv3), (4, .int xv4), (5, .int xv5)])  (hP12 : ∀ {H : Heap} {locs : List Loc} {ls : Array Slot} {yv4 : Int32} {y4 : Int} {yv5 : Int32} {y5 : Int}, yv4.toInt = y4 → yv5.toInt = y5 → Wd G ((injC SB) S) H → va_S (AG G) s.heap H locs → lv_has ls 6 [(0, .ref (G.2.2 1037)), (3, .int xv3), (4, .int yv4), (5, .int yv5)] → P12 y4 y5 → W p l e (rmF 2 52) s m args below meth c H locs 0 0 (MQ below (QcI G (injC SB) k) args s 0 0 (AG G)) (F0 m 12 ls [])) (h : wX1_specificAt_12_b S x3 x4 x5 P12 k) : W p l e (rmF 2 52) s m args below meth c H locs 0 0 (MQ below (QcI G (injC SB) k) args s 0 0 (AG G)) (F0 m 12 ls []) := by
  refine lv_iload C.1.1 C.1.2.1 dX1_specificAt_12 (lv_at hl 3 rfl) ?_
  refine lv_aload_n C.1.1 C.1.2.1 dX1_specificAt_14 rfl (lv_at hl 0 rfl) ?_
  refine y_getI C fl_X1_73 hw (ock_1 SB) rfl dX1_specificAt_15 (fun v1 t1 => ?_)
  refine y_icmp_ge C xt5 t1 dX1_specificAt_18 (tgt := 53) (by decide) (fun c2 => ?_) (fun c2 => ?_)
  · have h := h.1 c2
    refine y_iconst C dX1_specificAt_53 ⟨by decide, by decide⟩ (fun v3 t3 => ?_)
    exact y_iret C hw hS t3 h dX1_specificAt_54
  · have h := h.2 c2
    refine lv_aload_n C.1.1 C.1.2.1 dX1_specificAt_21 rfl (lv_at hl 0 rfl) ?_
    refine lv_iload C.1.1 C.1.2.1 dX1_specificAt_22 (lv_at hl 3 rfl) ?_
    refine y_cVIp C (As := [.int xv5]) (rest := []) ml_X1_96 (kX1_isSpecific l G SB S xt5 h) (ock_1 SB) (T := TX1) (N := 8) rfl (by decide) ⟨(Nat.le_of_ble_eq_true rfl), (Nat.le_of_ble_eq_true rfl)⟩ hl.1 rfl rfl (Nat.le_of_ble_eq_true rfl) hw hS dX1_specificAt_24 (fun v4 x_4 H locs t4 h hw hS => ?_)
    refine y_if_eq C t4 dX1_specificAt_27 (tgt := 47) (by decide) (fun c5 => ?_) (fun c5 => ?_)
    · have h := h.1 c5
      obtain ⟨x_6, e6⟩ : ∃ z : Int, z = w32 (x5 + 1) := ⟨_, rfl⟩
      have h := h x_6 e6
      obtain ⟨v6, t6, g6⟩ : ∃ z : Int32, z.toInt = x_6 ∧ xv5 + Int32.ofInt 1 = z := ⟨_, (ti_inc xt5 ⟨by decide, by decide⟩).trans e6.symm, rfl⟩
      refine lv_iinc (v := v6) (lv' := [(5, .int v6), (0, .ref (G.2.2 1037)), (3, .int xv3), (4, .int xv4)]) C.1.1 C.1.2.1 dX1_specificAt_47 hl (k := 3) rfl g6 (by decide) rfl (fun ls hl => ?_)
      refine lv_goto (tgt := 12) C.1.1 C.1.2.1 dX1_specificAt_50 (by decide) ?_
      exact hP12 xt4 t6 hw hS (lv_sub hl [1, 2, 3, 0] rfl) h
    · have h := h.2 c5
      refine lv_iload C.1.1 C.1.2.1 dX1_specificAt_30 (lv_at hl 2 rfl) ?_
      refine lv_iload_n C.1.1 C.1.2.1 dX1_specificAt_32 rfl (lv_at hl 1 rfl) ?_
      refine y_icmp_ne C xt4 xt3 dX1_specificAt_33 (tgt := 44) (by decide) (fun c7 => ?_) (fun c7 => ?_)
      · have h := h.1 c7
        obtain ⟨x_8, e8⟩ : ∃ z : Int, z = w32 (x4 + 1) := ⟨_, rfl⟩
        have h := h x_8 e8
        obtain ⟨v8, t8, g8⟩ : ∃ z : Int32, z.toInt = x_8 ∧ xv4 + Int32.ofInt 1 = z := ⟨_, (ti_inc xt4 ⟨by decide, by decide⟩).trans e8.symm, rfl⟩
        refine lv_iinc (v := v8) (lv' := [(4, .int v8), (0, .ref (G.2.2 1037)), (3, .int xv3), (5, .int xv5)]) C.1.1 C.1.2.1 dX1_specificAt_44 hl (k := 2) rfl g8 (by decide) rfl (fun ls hl => ?_)
        obtain ⟨x_9, e9⟩ : ∃ z : Int, z = w32 (x5 + 1) := ⟨_, rfl⟩
        have h := h x_9 e9
        obtain ⟨v9, t9, g9⟩ : ∃ z : Int32, z.toInt = x_9 ∧ xv5 + Int32.ofInt 1 = z := ⟨_, (ti_inc xt5 ⟨by decide, by decide⟩).trans e9.symm, rfl⟩
        refine lv_iinc (v := v9) (lv' := [(5, .int v9), (4, .int v8), (0, .ref (G.2.2 1037)), (3, .int xv3)]) C.1.1 C.1.2.1 dX1_specificAt_47 hl (k := 3) rfl g9 (by decide) rfl (fun ls hl => ?_)
        refine lv_goto (tgt := 12) C.1.1 C.1.2.1 dX1_specificAt_50 (by decide) ?_
        exact hP12 t8 t9 hw hS (lv_sub hl [2, 3, 1, 0] rfl) h
      · have h := h.2 c7
        refine lv_aload_n C.1.1 C.1.2.1 dX1_specificAt_36 rfl (lv_at hl 0 rfl) ?_
        refine y_getA C fl_X1_9 hw (ock_1 SB) rfl (o := 1) rfl dX1_specificAt_37 ?_
        refine lv_iload C.1.1 C.1.2.1 dX1_specificAt_40 (lv_at hl 3 rfl) ?_
        obtain ⟨b11, h⟩ := h
        refine y_iald C hw (ack_1_1 SB) xt5 b11 dX1_specificAt_42 (fun v11 t11 => ?_)
        exact y_iret C hw hS t11 h dX1_specificAt_43
set_option maxHeartbeats 4000000 in
set_option maxRecDepth 10000 in
theorem uX1_specificAt_12 {p : Program} {l : Launch} {e : Env} {s : State} {m : MethodId} {args : Array Value} {below : List Frame} {meth : Method} {c : Code} {G : GG} {SB : St} (C : Cx p s m args meth c G RX1 cX1_specificAt 6 (some .int)) {S : St} {H : Heap} {locs : List Loc} {ls : Array Slot}  {k : Int → St → Prop} (hw : Wd G ((injC SB) S) H) (hS : va_S (AG G) s.heap H locs) {xv3 : Int32} {x3 : Int} (xt3 : xv3.toInt = x3) {xv4 : Int32} {x4 : Int} (xt4 : xv4.toInt = x4) {xv5 : Int32} {x5 : Int} (xt5 : xv5.toInt = x5) (hl : lv_has ls 6 [(0, .ref (G.2.2 1037)), (3, .int xv3), (4, .int xv4), (5, .int xv5)])  (h : wX1_specificAt_12 S x3 x4 x5 k) : W p l e (rmF 2 52) s m args below meth c H locs 0 0 (MQ below (QcI G (injC SB) k) args s 0 0 (AG G)) (F0 m 12 ls []) := by
  have key : ∀ (n : Nat) {H : Heap} {locs : List Loc} {ls : Array Slot} {xv4 : Int32} {x4 : Int} {xv5 : Int32} {x5 : Int}, xv4.toInt = x4 → xv5.toInt = x5 → Wd G ((injC SB) S) H → va_S (AG G) s.heap H locs → lv_has ls 6 [(0, .ref (G.2.2 1037)), (3, .int xv3), (4, .int xv4), (5, .int xv5)] → itP (fun (P : Int × Int → Prop) (a : Int × Int) => wX1_specificAt_12_b S x3 a.1 a.2 (fun b0 b1 => P (b0, b1)) k) n (x4, x5) → W p l e (rmF 2 52) s m args below meth c H locs 0 0 (MQ below (QcI G (injC SB) k) args s 0 0 (AG G)) (F0 m 12 ls []) := by
    intro n
    induction n with
    | zero => intro H locs ls xv4 x4 xv5 x5 xt4 xt5 hw hS hl h; exact h.elim
    | succ n ih =>
      intro H locs ls xv4 x4 xv5 x5 xt4 xt5 hw hS hl h
      exact uX1_specificAt_12_b C hw hS xt3 xt4 xt5 hl  (P12 := fun b0 b1 => itP _ n (b0, b1)) (fun q0 q1 hw hS hl h => ih q0 q1 hw hS hl h) h
  obtain ⟨n, hn⟩ := h
  exact key n xt4 xt5 hw hS hl hn
set_option maxHeartbeats 4000000 in
set_option maxRecDepth 10000 in
theorem uX1_specificAt_0 {p : Program} {l : Launch} {e : Env} {s : State} {m : MethodId} {args : Array Value} {below : List Frame} {meth : Method} {c : Code} {G : GG} {SB : St} (C : Cx p s m args meth c G RX1 cX1_specificAt 6 (some .int)) {S : St} {H : Heap} {locs : List Loc} {ls : Array Slot}  {k : Int → St → Prop} (hw : Wd G ((injC SB) S) H) (hS : va_S (AG G) s.heap H locs) {xv1 : Int32} {x1 : Int} (xt1 : xv1.toInt = x1) {xv2 : Int32} {x2 : Int} (xt2 : xv2.toInt = x2) {xv3 : Int32} {x3 : Int} (xt3 : xv3.toInt = x3) (hl : lv_has ls 6 [(0, .ref (G.2.2 1037)), (1, .int xv1), (2, .int xv2), (3, .int xv3)])  (h : wX1_specificAt_0 S x1 x2 x3 k) : W p l e (rmF 2 52) s m args below meth c H locs 0 0 (MQ below (QcI G (injC SB) k) args s 0 0 (AG G)) (F0 m 0 ls []) := by
  refine lv_aload_n C.1.1 C.1.2.1 dX1_specificAt_0 rfl (lv_at hl 0 rfl) ?_
  refine lv_iload_n C.1.1 C.1.2.1 dX1_specificAt_1 rfl (lv_at hl 1 rfl) ?_
  refine lv_iload_n C.1.1 C.1.2.1 dX1_specificAt_2 rfl (lv_at hl 2 rfl) ?_
  refine y_cVV C (As := [.int xv1, .int xv2]) (rest := []) ml_X1_65 (kX1_gatherFaces l G SB S xt1 xt2 h) (ock_1 SB) (T := TX1) (N := 8) rfl (by decide) ⟨(Nat.le_of_ble_eq_true rfl), (Nat.le_of_ble_eq_true rfl)⟩ hl.1 rfl rfl (Nat.le_of_ble_eq_true rfl) hw hS dX1_specificAt_3 (fun S_1 H locs h hw hS => ?_)
  refine y_iconst C dX1_specificAt_6 ⟨by decide, by decide⟩ (fun v2 t2 => ?_)
  refine lv_istore (lv' := [(4, .int v2), (0, .ref (G.2.2 1037)), (1, .int xv1), (2, .int xv2), (3, .int xv3)]) C.1.1 C.1.2.1 dX1_specificAt_7 hl (by decide) rfl (fun ls hl => ?_)
  refine y_iconst C dX1_specificAt_9 ⟨by decide, by decide⟩ (fun v3 t3 => ?_)
  refine lv_istore (lv' := [(5, .int v3), (4, .int v2), (0, .ref (G.2.2 1037)), (1, .int xv1), (2, .int xv2), (3, .int xv3)]) C.1.1 C.1.2.1 dX1_specificAt_10 hl (by decide) rfl (fun ls hl => ?_)
  exact uX1_specificAt_12 C hw hS xt3 t2 t3 (lv_sub hl [2, 5, 1, 0] rfl)  h
theorem kX1_specificAt (l : Launch) (G : GG) (SB S : St) {xv1 : Int32} {x1 : Int} (xt1 : xv1.toInt = x1) {xv2 : Int32} {x2 : Int} (xt2 : xv2.toInt = x2) {xv3 : Int32} {x3 : Int} (xt3 : xv3.toInt = x3) {k : Int → St → Prop} (h : wX1_specificAt S x1 x2 x3 k) : CnI l yX1_specificAt cX1_specificAt 6 (some .int) 2 52 G (injC SB) [.ref (G.2.2 1037), .int xv1, .int xv2, .int xv3] S k :=
  cn_body (by decide +kernel) (Nat.le_of_ble_eq_true rfl) (fun p e s m args below meth c ls C hw hl => uX1_specificAt_0 C hw va_S.rf xt1 xt2 xt3 (lv_sub hl [0, 1, 2, 3] rfl) h)
set_option maxHeartbeats 4000000 in
set_option maxRecDepth 10000 in
theorem uX1_isNear_46 {p : Program} {l : Launch} {e : Env} {s : State} {m : MethodId} {args : Array Value} {below : List Frame} {meth : Method} {c : Code} {G : GG} {SB : St} (C : Cx p s m args meth c G RX1 cX1_isNear 6 (some .boolean)) {S : St} {H : Heap} {locs : List Loc} {ls : Array Slot}  {k : Int → Prop} (hw : Wd G ((injC SB) S) H) (hS : va_S (AG G) s.heap H locs) {xv1 : Int32} {x1 : Int} (xt1 : xv1.toInt = x1) {x3 : Int} (xo3 : isO 3 x3) {xv4 : Int32} {x4 : Int} (xt4 : xv4.toInt = x4) {sv0 : Int32} {s0 : Int} (st0 : sv0.toInt = s0) (hl : lv_has ls 6 [(0, .ref (G.2.2 1037)), (1, .int xv1), (3, .ref (G.2.2 (x3).toNat)), (4, .int xv4)])  (h : wX1_isNear_46 S x1 x3 x4 s0 k) : W p l e (rmF 1 22) s m args below meth c H locs 0 0 (MQ below (QcI G (injC SB) (fun r u => k r ∧ u = S)) args s 0 0 (AG G)) (F0 m 46 ls [.int sv0]) := by
  refine lv_istore (lv' := [(5, .int sv0), (0, .ref (G.2.2 1037)), (1, .int xv1), (3, .ref (G.2.2 (x3).toNat)), (4, .int xv4)]) C.1.1 C.1.2.1 dX1_isNear_46 hl (by decide) rfl (fun ls hl => ?_)
  refine lv_aload_n C.1.1 C.1.2.1 dX1_isNear_48 rfl (lv_at hl 3 rfl) ?_
  refine y_cVIp C (As := []) (rest := []) ml_X1_112 (kX3_isStatic l G SB S xo3 h) (oc_of SB xo3) (T := TX3) (N := 8) rfl (by decide) ⟨(Nat.le_of_ble_eq_true rfl), (Nat.le_of_ble_eq_true rfl)⟩ hl.1 rfl rfl (Nat.le_of_ble_eq_true rfl) hw hS dX1_isNear_49 (fun v1 x_1 H locs t1 h hw hS => ?_)
  refine y_if_ne C t1 dX1_isNear_52 (tgt := 73) (by decide) (fun c2 => ?_) (fun c2 => ?_)
  · have h := h.1 c2
    refine y_iconst C dX1_isNear_73 ⟨by decide, by decide⟩ (fun v3 t3 => ?_)
    refine lv_goto (tgt := 78) C.1.1 C.1.2.1 dX1_isNear_74 (by decide) ?_
    exact y_zret C hw hS t3 (Or.inr rfl) ⟨h, rfl⟩ dX1_isNear_78
  · have h := h.2 c2
    refine lv_iload C.1.1 C.1.2.1 dX1_isNear_55 (lv_at hl 0 rfl) ?_
    refine y_if_eq C st0 dX1_isNear_57 (tgt := 77) (by decide) (fun c4 => ?_) (fun c4 => ?_)
    · have h := h.1 c4
      refine y_iconst C dX1_isNear_77 ⟨by decide, by decide⟩ (fun v5 t5 => ?_)
      exact y_zret C hw hS t5 (Or.inl rfl) ⟨h, rfl⟩ dX1_isNear_78
    · have h := h.2 c4
      refine lv_aload_n C.1.1 C.1.2.1 dX1_isNear_60 rfl (lv_at hl 1 rfl) ?_
      obtain ⟨x_6, e6⟩ : ∃ z : Int, z = S 1037 0 := ⟨_, rfl⟩
      obtain ⟨o6, h⟩ := h x_6 e6
      refine y_getO C fl_X1_25 hw (ock_1 SB) rfl e6 o6 dX1_isNear_61 ?_
      refine lv_iload C.1.1 C.1.2.1 dX1_isNear_64 (lv_at hl 4 rfl) ?_
      refine lv_iload_n C.1.1 C.1.2.1 dX1_isNear_66 rfl (lv_at hl 2 rfl) ?_
      refine y_cVIp C (As := [.int xv4, .int xv1]) (rest := []) ml_X1_88 (kX2_isUnder l G SB S o6 xt4 xt1 h) (oc_of SB o6) (T := TX2) (N := 9) rfl (by decide) ⟨(Nat.le_of_ble_eq_true rfl), (Nat.le_of_ble_eq_true rfl)⟩ hl.1 rfl rfl (Nat.le_of_ble_eq_true rfl) hw hS dX1_isNear_67 (fun v7 x_7 H locs t7 h hw hS => ?_)
      refine y_if_eq C t7 dX1_isNear_70 (tgt := 77) (by decide) (fun c8 => ?_) (fun c8 => ?_)
      · have h := h.1 c8
        refine y_iconst C dX1_isNear_77 ⟨by decide, by decide⟩ (fun v9 t9 => ?_)
        exact y_zret C hw hS t9 (Or.inl rfl) ⟨h, rfl⟩ dX1_isNear_78
      · have h := h.2 c8
        refine y_iconst C dX1_isNear_73 ⟨by decide, by decide⟩ (fun v10 t10 => ?_)
        refine lv_goto (tgt := 78) C.1.1 C.1.2.1 dX1_isNear_74 (by decide) ?_
        exact y_zret C hw hS t10 (Or.inr rfl) ⟨h, rfl⟩ dX1_isNear_78
set_option maxHeartbeats 4000000 in
set_option maxRecDepth 10000 in
theorem uX1_isNear_41 {p : Program} {l : Launch} {e : Env} {s : State} {m : MethodId} {args : Array Value} {below : List Frame} {meth : Method} {c : Code} {G : GG} {SB : St} (C : Cx p s m args meth c G RX1 cX1_isNear 6 (some .boolean)) {S : St} {H : Heap} {locs : List Loc} {ls : Array Slot}  {k : Int → Prop} (hw : Wd G ((injC SB) S) H) (hS : va_S (AG G) s.heap H locs) {xv1 : Int32} {x1 : Int} (xt1 : xv1.toInt = x1) {x3 : Int} (xo3 : isO 3 x3) {xv4 : Int32} {x4 : Int} (xt4 : xv4.toInt = x4) (hl : lv_has ls 6 [(0, .ref (G.2.2 1037)), (1, .int xv1), (3, .ref (G.2.2 (x3).toNat)), (4, .int xv4)])  (h : wX1_isNear_41 S x1 x3 x4 k) : W p l e (rmF 1 22) s m args below meth c H locs 0 0 (MQ below (QcI G (injC SB) (fun r u => k r ∧ u = S)) args s 0 0 (AG G)) (F0 m 41 ls []) := by
  refine y_iconst C dX1_isNear_41 ⟨by decide, by decide⟩ (fun v1 t1 => ?_)
  refine lv_goto (tgt := 46) C.1.1 C.1.2.1 dX1_isNear_42 (by decide) ?_
  exact uX1_isNear_46 C hw hS xt1 xo3 xt4 t1 (lv_sub hl [0, 1, 2, 3] rfl)  h
set_option maxHeartbeats 4000000 in
set_option maxRecDepth 10000 in
theorem uX1_isNear_0 {p : Program} {l : Launch} {e : Env} {s : State} {m : MethodId} {args : Array Value} {below : List Frame} {meth : Method} {c : Code} {G : GG} {SB : St} (C : Cx p s m args meth c G RX1 cX1_isNear 6 (some .boolean)) {S : St} {H : Heap} {locs : List Loc} {ls : Array Slot}  {k : Int → Prop} (hw : Wd G ((injC SB) S) H) (hS : va_S (AG G) s.heap H locs) {xv1 : Int32} {x1 : Int} (xt1 : xv1.toInt = x1) {xv2 : Int32} {x2 : Int} (xt2 : xv2.toInt = x2) {x3 : Int} (xo3 : isO 3 x3) {xv4 : Int32} {x4 : Int} (xt4 : xv4.toInt = x4) (hl : lv_has ls 6 [(0, .ref (G.2.2 1037)), (1, .int xv1), (2, .int xv2), (3, .ref (G.2.2 (x3).toNat)), (4, .int xv4)])  (h : wX1_isNear_0 S x1 x2 x3 x4 k) : W p l e (rmF 1 22) s m args below meth c H locs 0 0 (MQ below (QcI G (injC SB) (fun r u => k r ∧ u = S)) args s 0 0 (AG G)) (F0 m 0 ls []) := by
  refine lv_aload_n C.1.1 C.1.2.1 dX1_isNear_0 rfl (lv_at hl 0 rfl) ?_
  obtain ⟨x_1, e1⟩ : ∃ z : Int, z = S 1037 0 := ⟨_, rfl⟩
  obtain ⟨o1, h⟩ := h x_1 e1
  refine y_getO C fl_X1_25 hw (ock_1 SB) rfl e1 o1 dX1_isNear_1 ?_
  refine lv_iload_n C.1.1 C.1.2.1 dX1_isNear_4 rfl (lv_at hl 1 rfl) ?_
  refine lv_aload_n C.1.1 C.1.2.1 dX1_isNear_5 rfl (lv_at hl 3 rfl) ?_
  refine y_getI C fl_X1_85 hw (oc_of SB xo3) rfl dX1_isNear_6 (fun v2 t2 => ?_)
  refine y_cVIp C (As := [.int xv1, .int v2]) (rest := []) ml_X1_88 (kX2_isUnder l G SB S o1 xt1 t2 h) (oc_of SB o1) (T := TX2) (N := 9) rfl (by decide) ⟨(Nat.le_of_ble_eq_true rfl), (Nat.le_of_ble_eq_true rfl)⟩ hl.1 rfl rfl (Nat.le_of_ble_eq_true rfl) hw hS dX1_isNear_9 (fun v3 x_3 H locs t3 h hw hS => ?_)
  refine y_if_ne C t3 dX1_isNear_12 (tgt := 17) (by decide) (fun c4 => ?_) (fun c4 => ?_)
  · have h := h.1 c4
    refine lv_aload_n C.1.1 C.1.2.1 dX1_isNear_17 rfl (lv_at hl 0 rfl) ?_
    obtain ⟨x_5, e5⟩ : ∃ z : Int, z = S 1037 0 := ⟨_, rfl⟩
    obtain ⟨o5, h⟩ := h x_5 e5
    refine y_getO C fl_X1_25 hw (ock_1 SB) rfl e5 o5 dX1_isNear_18 ?_
    refine lv_iload_n C.1.1 C.1.2.1 dX1_isNear_21 rfl (lv_at hl 2 rfl) ?_
    refine lv_iload_n C.1.1 C.1.2.1 dX1_isNear_22 rfl (lv_at hl 1 rfl) ?_
    refine y_cVIp C (As := [.int xv2, .int xv1]) (rest := []) ml_X1_88 (kX2_isUnder l G SB S o5 xt2 xt1 h) (oc_of SB o5) (T := TX2) (N := 9) rfl (by decide) ⟨(Nat.le_of_ble_eq_true rfl), (Nat.le_of_ble_eq_true rfl)⟩ hl.1 rfl rfl (Nat.le_of_ble_eq_true rfl) hw hS dX1_isNear_23 (fun v6 x_6 H locs t6 h hw hS => ?_)
    refine y_if_ne C t6 dX1_isNear_26 (tgt := 41) (by decide) (fun c7 => ?_) (fun c7 => ?_)
    · have h := h.1 c7
      exact uX1_isNear_41 C hw hS xt1 xo3 xt4 (lv_sub hl [0, 1, 3, 4] rfl)  h
    · have h := h.2 c7
      refine lv_aload_n C.1.1 C.1.2.1 dX1_isNear_29 rfl (lv_at hl 0 rfl) ?_
      obtain ⟨x_8, e8⟩ : ∃ z : Int, z = S 1037 0 := ⟨_, rfl⟩
      obtain ⟨o8, h⟩ := h x_8 e8
      refine y_getO C fl_X1_25 hw (ock_1 SB) rfl e8 o8 dX1_isNear_30 ?_
      refine lv_iload_n C.1.1 C.1.2.1 dX1_isNear_33 rfl (lv_at hl 1 rfl) ?_
      refine lv_iload_n C.1.1 C.1.2.1 dX1_isNear_34 rfl (lv_at hl 2 rfl) ?_
      refine y_cVIp C (As := [.int xv1, .int xv2]) (rest := []) ml_X1_88 (kX2_isUnder l G SB S o8 xt1 xt2 h) (oc_of SB o8) (T := TX2) (N := 9) rfl (by decide) ⟨(Nat.le_of_ble_eq_true rfl), (Nat.le_of_ble_eq_true rfl)⟩ hl.1 rfl rfl (Nat.le_of_ble_eq_true rfl) hw hS dX1_isNear_35 (fun v9 x_9 H locs t9 h hw hS => ?_)
      refine y_if_eq C t9 dX1_isNear_38 (tgt := 45) (by decide) (fun c10 => ?_) (fun c10 => ?_)
      · have h := h.1 c10
        refine y_iconst C dX1_isNear_45 ⟨by decide, by decide⟩ (fun v11 t11 => ?_)
        exact uX1_isNear_46 C hw hS xt1 xo3 xt4 t11 (lv_sub hl [0, 1, 3, 4] rfl)  h
      · have h := h.2 c10
        exact uX1_isNear_41 C hw hS xt1 xo3 xt4 (lv_sub hl [0, 1, 3, 4] rfl)  h
  · have h := h.2 c4
    refine y_iconst C dX1_isNear_15 ⟨by decide, by decide⟩ (fun v12 t12 => ?_)
    exact y_zret C hw hS t12 (Or.inl rfl) ⟨h, rfl⟩ dX1_isNear_16
theorem kX1_isNear (l : Launch) (G : GG) (SB S : St) {xv1 : Int32} {x1 : Int} (xt1 : xv1.toInt = x1) {xv2 : Int32} {x2 : Int} (xt2 : xv2.toInt = x2) {x3 : Int} (xo3 : isO 3 x3) {xv4 : Int32} {x4 : Int} (xt4 : xv4.toInt = x4) {k : Int → Prop} (h : wX1_isNear S x1 x2 x3 x4 k) : CnI l yX1_isNear cX1_isNear 6 (some .boolean) 1 22 G (injC SB) [.ref (G.2.2 1037), .int xv1, .int xv2, .ref (G.2.2 (x3).toNat), .int xv4] S (fun r u => k r ∧ u = S) :=
  cn_body (by decide +kernel) (Nat.le_of_ble_eq_true rfl) (fun p e s m args below meth c ls C hw hl => uX1_isNear_0 C hw va_S.rf xt1 xt2 xo3 xt4 (lv_sub hl [0, 1, 2, 3, 4] rfl) h)
set_option maxHeartbeats 4000000 in
set_option maxRecDepth 10000 in
theorem uX1_isGranted_0 {p : Program} {l : Launch} {e : Env} {s : State} {m : MethodId} {args : Array Value} {below : List Frame} {meth : Method} {c : Code} {G : GG} {SB : St} (C : Cx p s m args meth c G RX1 cX1_isGranted 6 (some .boolean)) {S : St} {H : Heap} {locs : List Loc} {ls : Array Slot}  {k : Int → Prop} (hw : Wd G ((injC SB) S) H) (hS : va_S (AG G) s.heap H locs) {xv1 : Int32} {x1 : Int} (xt1 : xv1.toInt = x1) {xv2 : Int32} {x2 : Int} (xt2 : xv2.toInt = x2) {xv3 : Int32} {x3 : Int} (xt3 : xv3.toInt = x3) {xv4 : Int32} {x4 : Int} (xt4 : xv4.toInt = x4) (hl : lv_has ls 6 [(0, .ref (G.2.2 1037)), (1, .int xv1), (2, .int xv2), (3, .int xv3), (4, .int xv4)])  (h : wX1_isGranted_0 S x1 x2 x3 x4 k) : W p l e (rmF 2 47) s m args below meth c H locs 0 0 (MQ below (QcI G (injC SB) (fun r u => k r ∧ u = S)) args s 0 0 (AG G)) (F0 m 0 ls []) := by
  refine lv_aload_n C.1.1 C.1.2.1 dX1_isGranted_0 rfl (lv_at hl 0 rfl) ?_
  refine lv_iload_n C.1.1 C.1.2.1 dX1_isGranted_1 rfl (lv_at hl 3 rfl) ?_
  refine y_cVOp C (As := [.int xv3]) (rest := []) ml_X1_38 (kX1_memberOf l G SB S xt3 h) (ock_1 SB) (T := TX1) (N := 8) rfl (by decide) ⟨(Nat.le_of_ble_eq_true rfl), (Nat.le_of_ble_eq_true rfl)⟩ hl.1 rfl rfl (Nat.le_of_ble_eq_true rfl) hw hS dX1_isGranted_2 (fun x_1 H locs o1 h hw hS => ?_)
  refine lv_astore (lv' := [(5, .ref (G.2.2 (x_1).toNat)), (0, .ref (G.2.2 1037)), (1, .int xv1), (2, .int xv2), (3, .int xv3), (4, .int xv4)]) C.1.1 C.1.2.1 dX1_isGranted_5 hl (by decide) rfl (fun ls hl => ?_)
  refine lv_aload C.1.1 C.1.2.1 dX1_isGranted_7 (lv_at hl 0 rfl) ?_
  refine y_getI C fl_X1_99 hw (oc_of SB o1) rfl dX1_isGranted_9 (fun v2 t2 => ?_)
  by_cases c3_0 : S x_1 2 = 0
  · have h := h.1 c3_0
    refine y_tabIn C t2 c3_0 dX1_isGranted_12 (by decide) (by decide) (off := 34) (by decide +kernel) (tgt := 46) (by decide) ?_
    refine lv_aload_n C.1.1 C.1.2.1 dX1_isGranted_46 rfl (lv_at hl 1 rfl) ?_
    obtain ⟨x_4, e4⟩ : ∃ z : Int, z = S 1037 0 := ⟨_, rfl⟩
    obtain ⟨o4, h⟩ := h x_4 e4
    refine y_getO C fl_X1_25 hw (ock_1 SB) rfl e4 o4 dX1_isGranted_47 ?_
    refine lv_iload_n C.1.1 C.1.2.1 dX1_isGranted_50 rfl (lv_at hl 2 rfl) ?_
    refine lv_aload C.1.1 C.1.2.1 dX1_isGranted_51 (lv_at hl 0 rfl) ?_
    refine y_getI C fl_X1_85 hw (oc_of SB o1) rfl dX1_isGranted_53 (fun v5 t5 => ?_)
    refine y_cVIp C (As := [.int xv1, .int v5]) (rest := []) ml_X1_102 (kX2_sameNest l G SB S o4 xt1 t5 h) (oc_of SB o4) (T := TX2) (N := 9) rfl (by decide) ⟨(Nat.le_of_ble_eq_true rfl), (Nat.le_of_ble_eq_true rfl)⟩ hl.1 rfl rfl (Nat.le_of_ble_eq_true rfl) hw hS dX1_isGranted_56 (fun v6 x_6 H locs t6 h hw hS => ?_)
    obtain ⟨z, h⟩ := h
    exact y_zret C hw hS t6 z ⟨h, rfl⟩ dX1_isGranted_59
  have h := h.2
  by_cases c3_1 : S x_1 2 = 1
  · have h := h.1 c3_1
    refine y_tabIn C t2 c3_1 dX1_isGranted_12 (by decide) (by decide) (off := 48) (by decide +kernel) (tgt := 60) (by decide) ?_
    refine lv_aload_n C.1.1 C.1.2.1 dX1_isGranted_60 rfl (lv_at hl 1 rfl) ?_
    obtain ⟨x_7, e7⟩ : ∃ z : Int, z = S 1037 0 := ⟨_, rfl⟩
    obtain ⟨o7, h⟩ := h x_7 e7
    refine y_getO C fl_X1_25 hw (ock_1 SB) rfl e7 o7 dX1_isGranted_61 ?_
    refine lv_iload_n C.1.1 C.1.2.1 dX1_isGranted_64 rfl (lv_at hl 2 rfl) ?_
    refine lv_aload C.1.1 C.1.2.1 dX1_isGranted_65 (lv_at hl 0 rfl) ?_
    refine y_getI C fl_X1_85 hw (oc_of SB o1) rfl dX1_isGranted_67 (fun v8 t8 => ?_)
    refine y_cVIp C (As := [.int xv1, .int v8]) (rest := []) ml_X1_105 (kX2_samePackage l G SB S o7 xt1 t8 h) (oc_of SB o7) (T := TX2) (N := 9) rfl (by decide) ⟨(Nat.le_of_ble_eq_true rfl), (Nat.le_of_ble_eq_true rfl)⟩ hl.1 rfl rfl (Nat.le_of_ble_eq_true rfl) hw hS dX1_isGranted_70 (fun v9 x_9 H locs t9 h hw hS => ?_)
    obtain ⟨z, h⟩ := h
    exact y_zret C hw hS t9 z ⟨h, rfl⟩ dX1_isGranted_73
  have h := h.2
  by_cases c3_2 : S x_1 2 = 2
  · have h := h.1 c3_2
    refine y_tabIn C t2 c3_2 dX1_isGranted_12 (by decide) (by decide) (off := 62) (by decide +kernel) (tgt := 74) (by decide) ?_
    refine lv_aload_n C.1.1 C.1.2.1 dX1_isGranted_74 rfl (lv_at hl 1 rfl) ?_
    obtain ⟨x_10, e10⟩ : ∃ z : Int, z = S 1037 0 := ⟨_, rfl⟩
    obtain ⟨o10, h⟩ := h x_10 e10
    refine y_getO C fl_X1_25 hw (ock_1 SB) rfl e10 o10 dX1_isGranted_75 ?_
    refine lv_iload_n C.1.1 C.1.2.1 dX1_isGranted_78 rfl (lv_at hl 2 rfl) ?_
    refine lv_aload C.1.1 C.1.2.1 dX1_isGranted_79 (lv_at hl 0 rfl) ?_
    refine y_getI C fl_X1_85 hw (oc_of SB o1) rfl dX1_isGranted_81 (fun v11 t11 => ?_)
    refine y_cVIp C (As := [.int xv1, .int v11]) (rest := []) ml_X1_105 (kX2_samePackage l G SB S o10 xt1 t11 h) (oc_of SB o10) (T := TX2) (N := 9) rfl (by decide) ⟨(Nat.le_of_ble_eq_true rfl), (Nat.le_of_ble_eq_true rfl)⟩ hl.1 rfl rfl (Nat.le_of_ble_eq_true rfl) hw hS dX1_isGranted_84 (fun v12 x_12 H locs t12 h hw hS => ?_)
    refine y_if_ne C t12 dX1_isGranted_87 (tgt := 103) (by decide) (fun c13 => ?_) (fun c13 => ?_)
    · have h := h.1 c13
      refine y_iconst C dX1_isGranted_103 ⟨by decide, by decide⟩ (fun v14 t14 => ?_)
      refine lv_goto (tgt := 108) C.1.1 C.1.2.1 dX1_isGranted_104 (by decide) ?_
      exact y_zret C hw hS t14 (Or.inr rfl) ⟨h, rfl⟩ dX1_isGranted_108
    · have h := h.2 c13
      refine lv_aload_n C.1.1 C.1.2.1 dX1_isGranted_90 rfl (lv_at hl 1 rfl) ?_
      refine lv_iload_n C.1.1 C.1.2.1 dX1_isGranted_91 rfl (lv_at hl 2 rfl) ?_
      refine lv_iload_n C.1.1 C.1.2.1 dX1_isGranted_92 rfl (lv_at hl 3 rfl) ?_
      refine lv_aload C.1.1 C.1.2.1 dX1_isGranted_93 (lv_at hl 0 rfl) ?_
      refine lv_iload C.1.1 C.1.2.1 dX1_isGranted_95 (lv_at hl 5 rfl) ?_
      refine y_cVIp C (As := [.int xv1, .int xv2, .ref (G.2.2 (x_1).toNat), .int xv4]) (rest := []) ml_X1_108 (kX1_isNear l G SB S xt1 xt2 o1 xt4 h) (ock_1 SB) (T := TX1) (N := 8) rfl (by decide) ⟨(Nat.le_of_ble_eq_true rfl), (Nat.le_of_ble_eq_true rfl)⟩ hl.1 rfl rfl (Nat.le_of_ble_eq_true rfl) hw hS dX1_isGranted_97 (fun v15 x_15 H locs t15 h hw hS => ?_)
      refine y_if_eq C t15 dX1_isGranted_100 (tgt := 107) (by decide) (fun c16 => ?_) (fun c16 => ?_)
      · have h := h.1 c16
        refine y_iconst C dX1_isGranted_107 ⟨by decide, by decide⟩ (fun v17 t17 => ?_)
        exact y_zret C hw hS t17 (Or.inl rfl) ⟨h, rfl⟩ dX1_isGranted_108
      · have h := h.2 c16
        refine y_iconst C dX1_isGranted_103 ⟨by decide, by decide⟩ (fun v18 t18 => ?_)
        refine lv_goto (tgt := 108) C.1.1 C.1.2.1 dX1_isGranted_104 (by decide) ?_
        exact y_zret C hw hS t18 (Or.inr rfl) ⟨h, rfl⟩ dX1_isGranted_108
  have h := h.2
  by_cases c3_3 : S x_1 2 = 3
  · have h := h.1 c3_3
    refine y_tabIn C t2 c3_3 dX1_isGranted_12 (by decide) (by decide) (off := 32) (by decide +kernel) (tgt := 44) (by decide) ?_
    refine y_iconst C dX1_isGranted_44 ⟨by decide, by decide⟩ (fun v19 t19 => ?_)
    exact y_zret C hw hS t19 (Or.inr rfl) ⟨h, rfl⟩ dX1_isGranted_45
  have h := h.2
  have c3 := sw_0_3 c3_0 c3_1 c3_2 c3_3
  have h := h c3
  refine y_tabOut C t2 c3 dX1_isGranted_12 (tgt := 74) (by decide) ?_
  refine lv_aload_n C.1.1 C.1.2.1 dX1_isGranted_74 rfl (lv_at hl 1 rfl) ?_
  obtain ⟨x_20, e20⟩ : ∃ z : Int, z = S 1037 0 := ⟨_, rfl⟩
  obtain ⟨o20, h⟩ := h x_20 e20
  refine y_getO C fl_X1_25 hw (ock_1 SB) rfl e20 o20 dX1_isGranted_75 ?_
  refine lv_iload_n C.1.1 C.1.2.1 dX1_isGranted_78 rfl (lv_at hl 2 rfl) ?_
  refine lv_aload C.1.1 C.1.2.1 dX1_isGranted_79 (lv_at hl 0 rfl) ?_
  refine y_getI C fl_X1_85 hw (oc_of SB o1) rfl dX1_isGranted_81 (fun v21 t21 => ?_)
  refine y_cVIp C (As := [.int xv1, .int v21]) (rest := []) ml_X1_105 (kX2_samePackage l G SB S o20 xt1 t21 h) (oc_of SB o20) (T := TX2) (N := 9) rfl (by decide) ⟨(Nat.le_of_ble_eq_true rfl), (Nat.le_of_ble_eq_true rfl)⟩ hl.1 rfl rfl (Nat.le_of_ble_eq_true rfl) hw hS dX1_isGranted_84 (fun v22 x_22 H locs t22 h hw hS => ?_)
  refine y_if_ne C t22 dX1_isGranted_87 (tgt := 103) (by decide) (fun c23 => ?_) (fun c23 => ?_)
  · have h := h.1 c23
    refine y_iconst C dX1_isGranted_103 ⟨by decide, by decide⟩ (fun v24 t24 => ?_)
    refine lv_goto (tgt := 108) C.1.1 C.1.2.1 dX1_isGranted_104 (by decide) ?_
    exact y_zret C hw hS t24 (Or.inr rfl) ⟨h, rfl⟩ dX1_isGranted_108
  · have h := h.2 c23
    refine lv_aload_n C.1.1 C.1.2.1 dX1_isGranted_90 rfl (lv_at hl 1 rfl) ?_
    refine lv_iload_n C.1.1 C.1.2.1 dX1_isGranted_91 rfl (lv_at hl 2 rfl) ?_
    refine lv_iload_n C.1.1 C.1.2.1 dX1_isGranted_92 rfl (lv_at hl 3 rfl) ?_
    refine lv_aload C.1.1 C.1.2.1 dX1_isGranted_93 (lv_at hl 0 rfl) ?_
    refine lv_iload C.1.1 C.1.2.1 dX1_isGranted_95 (lv_at hl 5 rfl) ?_
    refine y_cVIp C (As := [.int xv1, .int xv2, .ref (G.2.2 (x_1).toNat), .int xv4]) (rest := []) ml_X1_108 (kX1_isNear l G SB S xt1 xt2 o1 xt4 h) (ock_1 SB) (T := TX1) (N := 8) rfl (by decide) ⟨(Nat.le_of_ble_eq_true rfl), (Nat.le_of_ble_eq_true rfl)⟩ hl.1 rfl rfl (Nat.le_of_ble_eq_true rfl) hw hS dX1_isGranted_97 (fun v25 x_25 H locs t25 h hw hS => ?_)
    refine y_if_eq C t25 dX1_isGranted_100 (tgt := 107) (by decide) (fun c26 => ?_) (fun c26 => ?_)
    · have h := h.1 c26
      refine y_iconst C dX1_isGranted_107 ⟨by decide, by decide⟩ (fun v27 t27 => ?_)
      exact y_zret C hw hS t27 (Or.inl rfl) ⟨h, rfl⟩ dX1_isGranted_108
    · have h := h.2 c26
      refine y_iconst C dX1_isGranted_103 ⟨by decide, by decide⟩ (fun v28 t28 => ?_)
      refine lv_goto (tgt := 108) C.1.1 C.1.2.1 dX1_isGranted_104 (by decide) ?_
      exact y_zret C hw hS t28 (Or.inr rfl) ⟨h, rfl⟩ dX1_isGranted_108
theorem kX1_isGranted (l : Launch) (G : GG) (SB S : St) {xv1 : Int32} {x1 : Int} (xt1 : xv1.toInt = x1) {xv2 : Int32} {x2 : Int} (xt2 : xv2.toInt = x2) {xv3 : Int32} {x3 : Int} (xt3 : xv3.toInt = x3) {xv4 : Int32} {x4 : Int} (xt4 : xv4.toInt = x4) {k : Int → Prop} (h : wX1_isGranted S x1 x2 x3 x4 k) : CnI l yX1_isGranted cX1_isGranted 6 (some .boolean) 2 47 G (injC SB) [.ref (G.2.2 1037), .int xv1, .int xv2, .int xv3, .int xv4] S (fun r u => k r ∧ u = S) :=
  cn_body (by decide +kernel) (Nat.le_of_ble_eq_true rfl) (fun p e s m args below meth c ls C hw hl => uX1_isGranted_0 C hw va_S.rf xt1 xt2 xt3 xt4 (lv_sub hl [0, 1, 2, 3, 4] rfl) h)
set_option maxHeartbeats 4000000 in
set_option maxRecDepth 10000 in
theorem uX1_gatherChain_10_b {p : Program} {l : Launch} {e : Env} {s : State} {m : MethodId} {args : Array Value} {below : List Frame} {meth : Method} {c : Code} {G : GG} {SB : St} (C : Cx p s m args meth c G RX1 cX1_gatherChain 5 none) {S : St} {H : Heap} {locs : List Loc} {ls : Array Slot}  {P10 : Int → Int → St → Prop} {k : St → Prop} (hw : Wd G ((injC SB) S) H) (hS : va_S (AG G) s.heap H locs) {xv2 : Int32} {x2 : Int} (xt2 : xv2.toInt = x2) {xv3 : Int32} {x3 : Int} (xt3 : xv3.toInt = x3) {xv4 : Int32} {x4 : Int} (xt4 : xv4.toInt = x4) (hl : lv_has ls 5 [(0, .ref (G.2.2 1037)), (2, .int xv2), (3, .int xv3), (4, .int xv4)])  (hP10 : ∀ {H : Heap} {locs : List Loc} {ls : Array Slot} {Sy : St} {yv3 : Int32} {y3 : Int} {yv4 : Int32} {y4 : Int}, yv3.toInt = y3 → yv4.toInt = y4 → Wd G ((injC SB) Sy) H → va_S (AG G) s.heap H locs → lv_has ls 5 [(0, .ref (G.2.2 1037)), (2, .int xv2), (3, .int yv3), (4, .int yv4)] → P10 y3 y4 Sy → W p l e (rmF 1 25) s m args below meth c H locs 0 0 (MQ below (QcV G (injC SB) k) args s 0 0 (AG G)) (F0 m 10 ls [])) (h : wX1_gatherChain_10_b S x2 x3 x4 P10 k) : W p l e (rmF 1 25) s m args below meth c H locs 0 0 (MQ below (QcV G (injC SB) k) args s 0 0 (AG G)) (F0 m 10 ls []) := by
  refine lv_iload C.1.1 C.1.2.1 dX1_gatherChain_10 (lv_at hl 3 rfl) ?_
  refine y_bipush C dX1_gatherChain_12 ⟨by decide, by decide⟩ (fun v1 t1 => ?_)
  refine y_icmp_ge C xt4 t1 dX1_gatherChain_14 (tgt := 81) (by decide) (fun c2 => ?_) (fun c2 => ?_)
  · have h := h.1 c2
    exact y_vret C hw hS h dX1_gatherChain_81
  · have h := h.2 c2
    refine lv_iload_n C.1.1 C.1.2.1 dX1_gatherChain_17 rfl (lv_at hl 2 rfl) ?_
    refine y_iconst C dX1_gatherChain_18 ⟨by decide, by decide⟩ (fun v3 t3 => ?_)
    refine y_icmp_eq C xt3 t3 dX1_gatherChain_19 (tgt := 81) (by decide) (fun c4 => ?_) (fun c4 => ?_)
    · have h := h.1 c4
      exact y_vret C hw hS h dX1_gatherChain_81
    · have h := h.2 c4
      refine lv_aload_n C.1.1 C.1.2.1 dX1_gatherChain_22 rfl (lv_at hl 0 rfl) ?_
      refine y_getA C fl_X1_15 hw (ock_1 SB) rfl (o := 2) rfl dX1_gatherChain_23 ?_
      refine lv_iload C.1.1 C.1.2.1 dX1_gatherChain_26 (lv_at hl 3 rfl) ?_
      refine lv_iload_n C.1.1 C.1.2.1 dX1_gatherChain_28 rfl (lv_at hl 2 rfl) ?_
      obtain ⟨b6, h⟩ := h
      obtain ⟨S_6, e6⟩ : ∃ z : St, z = up S 1039 x4 x3 := ⟨_, rfl⟩
      have h := h S_6 e6
      refine y_iast C hw hS (ack_1_3 SB) xt4 xt3 b6 dX1_gatherChain_29 (fun H locs hw hS => ?_)
      have hw : Wd G ((injC SB) S_6) H := by rw [e6]; exact hw
      refine lv_aload_n C.1.1 C.1.2.1 dX1_gatherChain_30 rfl (lv_at hl 0 rfl) ?_
      refine y_getA C fl_X1_18 hw (ock_1 SB) rfl (o := 3) rfl dX1_gatherChain_31 ?_
      refine lv_iload C.1.1 C.1.2.1 dX1_gatherChain_34 (lv_at hl 3 rfl) ?_
      refine lv_aload_n C.1.1 C.1.2.1 dX1_gatherChain_36 rfl (lv_at hl 0 rfl) ?_
      obtain ⟨x_8, e8⟩ : ∃ z : Int, z = S_6 1037 0 := ⟨_, rfl⟩
      obtain ⟨o8, h⟩ := h x_8 e8
      refine y_getO C fl_X1_25 hw (ock_1 SB) rfl e8 o8 dX1_gatherChain_37 ?_
      refine lv_aload_n C.1.1 C.1.2.1 dX1_gatherChain_40 rfl (lv_at hl 0 rfl) ?_
      obtain ⟨x_9, e9⟩ : ∃ z : Int, z = S_6 1037 0 := ⟨_, rfl⟩
      obtain ⟨o9, h⟩ := h x_9 e9
      refine y_getO C fl_X1_25 hw (ock_1 SB) rfl e9 o9 dX1_gatherChain_41 ?_
      refine y_getA C fl_X1_48 hw (oc_of SB o9) rfl (o := 1) rfl dX1_gatherChain_44 ?_
      refine lv_iload_n C.1.1 C.1.2.1 dX1_gatherChain_47 rfl (lv_at hl 2 rfl) ?_
      obtain ⟨b11, h⟩ := h
      obtain ⟨x_11, e11⟩ : ∃ z : Int, z = x_9 + 6 + 6 * x3 := ⟨_, rfl⟩
      have h := h x_11 e11
      have o11 : isO 6 x_11 := isO_ty o9 b11 e11
      refine y_tyO C hw o9 xt3 b11 e11 dX1_gatherChain_48 ?_
      refine lv_iload_n C.1.1 C.1.2.1 dX1_gatherChain_49 rfl (lv_at hl 1 rfl) ?_
      refine y_cVIp C (As := [.ref (G.2.2 (x_11).toNat), .int xv2]) (rest := [.int xv4, .ref (G.2.2 (1040))]) ml_X1_58 (kX2_methodIn l G SB S_6 o8 o11 xt2 h) (oc_of SB o8) (T := TX2) (N := 9) rfl (by decide) ⟨(Nat.le_of_ble_eq_true rfl), (Nat.le_of_ble_eq_true rfl)⟩ hl.1 rfl rfl (Nat.le_of_ble_eq_true rfl) hw hS dX1_gatherChain_50 (fun v12 x_12 H locs t12 h hw hS => ?_)
      obtain ⟨b13, h⟩ := h
      obtain ⟨S_13, e13⟩ : ∃ z : St, z = up S_6 1040 x4 x_12 := ⟨_, rfl⟩
      have h := h S_13 e13
      refine y_iast C hw hS (ack_1_4 SB) xt4 t12 b13 dX1_gatherChain_53 (fun H locs hw hS => ?_)
      have hw : Wd G ((injC SB) S_13) H := by rw [e13]; exact hw
      refine lv_aload_n C.1.1 C.1.2.1 dX1_gatherChain_54 rfl (lv_at hl 0 rfl) ?_
      refine lv_iload C.1.1 C.1.2.1 dX1_gatherChain_55 (lv_at hl 3 rfl) ?_
      refine y_iconst C dX1_gatherChain_57 ⟨by decide, by decide⟩ (fun v14 t14 => ?_)
      refine y_iadd C xt4 t14 dX1_gatherChain_58 (fun v15 t15 => ?_)
      obtain ⟨S_16, e16⟩ : ∃ z : St, z = up S_13 1037 6 (w32 (x4 + 1)) := ⟨_, rfl⟩
      have h := h S_16 e16
      refine y_putI C fl_X1_129 fp_1_6 hw hS (ock_1 SB) rfl t15 dX1_gatherChain_59 (fun H locs hw hS => ?_)
      have hw : Wd G ((injC SB) S_16) H := by rw [e16]; exact hw
      refine lv_aload_n C.1.1 C.1.2.1 dX1_gatherChain_62 rfl (lv_at hl 0 rfl) ?_
      obtain ⟨x_17, e17⟩ : ∃ z : Int, z = S_16 1037 0 := ⟨_, rfl⟩
      obtain ⟨o17, h⟩ := h x_17 e17
      refine y_getO C fl_X1_25 hw (ock_1 SB) rfl e17 o17 dX1_gatherChain_63 ?_
      refine y_getA C fl_X1_48 hw (oc_of SB o17) rfl (o := 1) rfl dX1_gatherChain_66 ?_
      refine lv_iload_n C.1.1 C.1.2.1 dX1_gatherChain_69 rfl (lv_at hl 2 rfl) ?_
      obtain ⟨b19, h⟩ := h
      obtain ⟨x_19, e19⟩ : ∃ z : Int, z = x_17 + 6 + 6 * x3 := ⟨_, rfl⟩
      have h := h x_19 e19
      have o19 : isO 6 x_19 := isO_ty o17 b19 e19
      refine y_tyO C hw o17 xt3 b19 e19 dX1_gatherChain_70 ?_
      refine y_getI C fl_X1_62 hw (oc_of SB o19) rfl dX1_gatherChain_71 (fun v20 t20 => ?_)
      obtain ⟨x_21, e21⟩ : ∃ z : Int, z = S_16 x_19 11 := ⟨_, rfl⟩
      have h := h x_21 e21
      have t21 := t20.trans e21.symm
      refine lv_istore_n (lv' := [(3, .int v20), (0, .ref (G.2.2 1037)), (2, .int xv2), (4, .int xv4)]) C.1.1 C.1.2.1 dX1_gatherChain_74 rfl hl (by decide) rfl (fun ls hl => ?_)
      obtain ⟨x_22, e22⟩ : ∃ z : Int, z = w32 (x4 + 1) := ⟨_, rfl⟩
      have h := h x_22 e22
      obtain ⟨v22, t22, g22⟩ : ∃ z : Int32, z.toInt = x_22 ∧ xv4 + Int32.ofInt 1 = z := ⟨_, (ti_inc xt4 ⟨by decide, by decide⟩).trans e22.symm, rfl⟩
      refine lv_iinc (v := v22) (lv' := [(4, .int v22), (3, .int v20), (0, .ref (G.2.2 1037)), (2, .int xv2)]) C.1.1 C.1.2.1 dX1_gatherChain_75 hl (k := 3) rfl g22 (by decide) rfl (fun ls hl => ?_)
      refine lv_goto (tgt := 10) C.1.1 C.1.2.1 dX1_gatherChain_78 (by decide) ?_
      exact hP10 t21 t22 hw hS (lv_sub hl [2, 3, 1, 0] rfl) h
set_option maxHeartbeats 4000000 in
set_option maxRecDepth 10000 in
theorem uX1_gatherChain_10 {p : Program} {l : Launch} {e : Env} {s : State} {m : MethodId} {args : Array Value} {below : List Frame} {meth : Method} {c : Code} {G : GG} {SB : St} (C : Cx p s m args meth c G RX1 cX1_gatherChain 5 none) {S : St} {H : Heap} {locs : List Loc} {ls : Array Slot}  {k : St → Prop} (hw : Wd G ((injC SB) S) H) (hS : va_S (AG G) s.heap H locs) {xv2 : Int32} {x2 : Int} (xt2 : xv2.toInt = x2) {xv3 : Int32} {x3 : Int} (xt3 : xv3.toInt = x3) {xv4 : Int32} {x4 : Int} (xt4 : xv4.toInt = x4) (hl : lv_has ls 5 [(0, .ref (G.2.2 1037)), (2, .int xv2), (3, .int xv3), (4, .int xv4)])  (h : wX1_gatherChain_10 S x2 x3 x4 k) : W p l e (rmF 1 25) s m args below meth c H locs 0 0 (MQ below (QcV G (injC SB) k) args s 0 0 (AG G)) (F0 m 10 ls []) := by
  have key : ∀ (n : Nat) {H : Heap} {locs : List Loc} {ls : Array Slot} {S : St} {xv3 : Int32} {x3 : Int} {xv4 : Int32} {x4 : Int}, xv3.toInt = x3 → xv4.toInt = x4 → Wd G ((injC SB) S) H → va_S (AG G) s.heap H locs → lv_has ls 5 [(0, .ref (G.2.2 1037)), (2, .int xv2), (3, .int xv3), (4, .int xv4)] → itP (fun (P : Int × Int × St → Prop) (a : Int × Int × St) => wX1_gatherChain_10_b a.2.2 x2 a.1 a.2.1 (fun b0 b1 b2 => P (b0, b1, b2)) k) n (x3, x4, S) → W p l e (rmF 1 25) s m args below meth c H locs 0 0 (MQ below (QcV G (injC SB) k) args s 0 0 (AG G)) (F0 m 10 ls []) := by
    intro n
    induction n with
    | zero => intro H locs ls S xv3 x3 xv4 x4 xt3 xt4 hw hS hl h; exact h.elim
    | succ n ih =>
      intro H locs ls S xv3 x3 xv4 x4 xt3 xt4 hw hS hl h
      exact uX1_gatherChain_10_b C hw hS xt2 xt3 xt4 hl  (P10 := fun b0 b1 b2 => itP _ n (b0, b1, b2)) (fun q0 q1 hw hS hl h => ih q0 q1 hw hS hl h) h
  obtain ⟨n, hn⟩ := h
  exact key n xt3 xt4 hw hS hl hn
set_option maxHeartbeats 4000000 in
set_option maxRecDepth 10000 in
theorem uX1_gatherChain_0 {p : Program} {l : Launch} {e : Env} {s : State} {m : MethodId} {args : Array Value} {below : List Frame} {meth : Method} {c : Code} {G : GG} {SB : St} (C : Cx p s m args meth c G RX1 cX1_gatherChain 5 none) {S : St} {H : Heap} {locs : List Loc} {ls : Array Slot}  {k : St → Prop} (hw : Wd G ((injC SB) S) H) (hS : va_S (AG G) s.heap H locs) {xv1 : Int32} {x1 : Int} (xt1 : xv1.toInt = x1) {xv2 : Int32} {x2 : Int} (xt2 : xv2.toInt = x2) (hl : lv_has ls 5 [(0, .ref (G.2.2 1037)), (1, .int xv1), (2, .int xv2)])  (h : wX1_gatherChain_0 S x1 x2 k) : W p l e (rmF 1 25) s m args below meth c H locs 0 0 (MQ below (QcV G (injC SB) k) args s 0 0 (AG G)) (F0 m 0 ls []) := by
  refine lv_aload_n C.1.1 C.1.2.1 dX1_gatherChain_0 rfl (lv_at hl 0 rfl) ?_
  refine y_iconst C dX1_gatherChain_1 ⟨by decide, by decide⟩ (fun v1 t1 => ?_)
  obtain ⟨S_2, e2⟩ : ∃ z : St, z = up S 1037 6 0 := ⟨_, rfl⟩
  have h := h S_2 e2
  refine y_putI C fl_X1_129 fp_1_6 hw hS (ock_1 SB) rfl t1 dX1_gatherChain_2 (fun H locs hw hS => ?_)
  have hw : Wd G ((injC SB) S_2) H := by rw [e2]; exact hw
  refine lv_iload_n C.1.1 C.1.2.1 dX1_gatherChain_5 rfl (lv_at hl 1 rfl) ?_
  refine lv_istore_n (lv' := [(3, .int xv1), (0, .ref (G.2.2 1037)), (1, .int xv1), (2, .int xv2)]) C.1.1 C.1.2.1 dX1_gatherChain_6 rfl hl (by decide) rfl (fun ls hl => ?_)
  refine y_iconst C dX1_gatherChain_7 ⟨by decide, by decide⟩ (fun v3 t3 => ?_)
  refine lv_istore (lv' := [(4, .int v3), (3, .int xv1), (0, .ref (G.2.2 1037)), (1, .int xv1), (2, .int xv2)]) C.1.1 C.1.2.1 dX1_gatherChain_8 hl (by decide) rfl (fun ls hl => ?_)
  exact uX1_gatherChain_10 C hw hS xt2 xt1 t3 (lv_sub hl [2, 4, 1, 0] rfl)  h
theorem kX1_gatherChain (l : Launch) (G : GG) (SB S : St) {xv1 : Int32} {x1 : Int} (xt1 : xv1.toInt = x1) {xv2 : Int32} {x2 : Int} (xt2 : xv2.toInt = x2) {k : St → Prop} (h : wX1_gatherChain S x1 x2 k) : CnV l yX1_gatherChain cX1_gatherChain 5 none 1 25 G (injC SB) [.ref (G.2.2 1037), .int xv1, .int xv2] S k :=
  cn_body (by decide +kernel) (Nat.le_of_ble_eq_true rfl) (fun p e s m args below meth c ls C hw hl => uX1_gatherChain_0 C hw va_S.rf xt1 xt2 (lv_sub hl [0, 1, 2] rfl) h)
set_option maxHeartbeats 4000000 in
set_option maxRecDepth 10000 in
theorem uX1_replacesBetween_4_b {p : Program} {l : Launch} {e : Env} {s : State} {m : MethodId} {args : Array Value} {below : List Frame} {meth : Method} {c : Code} {G : GG} {SB : St} (C : Cx p s m args meth c G RX1 cX1_replacesBetween 3 (some .boolean)) {S : St} {H : Heap} {locs : List Loc} {ls : Array Slot}  {P4 : Int → Prop} {k : Int → Prop} (hw : Wd G ((injC SB) S) H) (hS : va_S (AG G) s.heap H locs) {xv1 : Int32} {x1 : Int} (xt1 : xv1.toInt = x1) {xv2 : Int32} {x2 : Int} (xt2 : xv2.toInt = x2) (hl : lv_has ls 3 [(0, .ref (G.2.2 1037)), (1, .int xv1), (2, .int xv2)])  (hP4 : ∀ {H : Heap} {locs : List Loc} {ls : Array Slot} {yv2 : Int32} {y2 : Int}, yv2.toInt = y2 → Wd G ((injC SB) S) H → va_S (AG G) s.heap H locs → lv_has ls 3 [(0, .ref (G.2.2 1037)), (1, .int xv1), (2, .int yv2)] → P4 y2 → W p l e (rmF 1 22) s m args below meth c H locs 0 0 (MQ below (QcI G (injC SB) (fun r u => k r ∧ u = S)) args s 0 0 (AG G)) (F0 m 4 ls [])) (h : wX1_replacesBetween_4_b S x1 x2 P4 k) : W p l e (rmF 1 22) s m args below meth c H locs 0 0 (MQ below (QcI G (injC SB) (fun r u => k r ∧ u = S)) args s 0 0 (AG G)) (F0 m 4 ls []) := by
  refine lv_iload_n C.1.1 C.1.2.1 dX1_replacesBetween_4 rfl (lv_at hl 2 rfl) ?_
  refine lv_aload_n C.1.1 C.1.2.1 dX1_replacesBetween_5 rfl (lv_at hl 0 rfl) ?_
  refine y_getI C fl_X1_129 hw (ock_1 SB) rfl dX1_replacesBetween_6 (fun v1 t1 => ?_)
  refine y_icmp_ge C xt2 t1 dX1_replacesBetween_9 (tgt := 68) (by decide) (fun c2 => ?_) (fun c2 => ?_)
  · have h := h.1 c2
    refine y_iconst C dX1_replacesBetween_68 ⟨by decide, by decide⟩ (fun v3 t3 => ?_)
    exact y_zret C hw hS t3 (Or.inl rfl) ⟨h, rfl⟩ dX1_replacesBetween_69
  · have h := h.2 c2
    refine lv_aload_n C.1.1 C.1.2.1 dX1_replacesBetween_12 rfl (lv_at hl 0 rfl) ?_
    refine y_getA C fl_X1_21 hw (ock_1 SB) rfl (o := 4) rfl dX1_replacesBetween_13 ?_
    refine lv_iload_n C.1.1 C.1.2.1 dX1_replacesBetween_16 rfl (lv_at hl 2 rfl) ?_
    obtain ⟨b5, h⟩ := h
    refine y_zald C hw (ack_1_5 SB) xt2 b5 dX1_replacesBetween_17 (fun v5 t5 => ?_)
    refine y_if_eq C t5 dX1_replacesBetween_18 (tgt := 62) (by decide) (fun c6 => ?_) (fun c6 => ?_)
    · have h := h.1 c6
      obtain ⟨x_7, e7⟩ : ∃ z : Int, z = w32 (x2 + 1) := ⟨_, rfl⟩
      have h := h x_7 e7
      obtain ⟨v7, t7, g7⟩ : ∃ z : Int32, z.toInt = x_7 ∧ xv2 + Int32.ofInt 1 = z := ⟨_, (ti_inc xt2 ⟨by decide, by decide⟩).trans e7.symm, rfl⟩
      refine lv_iinc (v := v7) (lv' := [(2, .int v7), (0, .ref (G.2.2 1037)), (1, .int xv1)]) C.1.1 C.1.2.1 dX1_replacesBetween_62 hl (k := 2) rfl g7 (by decide) rfl (fun ls hl => ?_)
      refine lv_goto (tgt := 4) C.1.1 C.1.2.1 dX1_replacesBetween_65 (by decide) ?_
      exact hP4 t7 hw hS (lv_sub hl [1, 2, 0] rfl) h
    · have h := h.2 c6
      refine lv_aload_n C.1.1 C.1.2.1 dX1_replacesBetween_21 rfl (lv_at hl 0 rfl) ?_
      refine lv_aload_n C.1.1 C.1.2.1 dX1_replacesBetween_22 rfl (lv_at hl 0 rfl) ?_
      refine y_getA C fl_X1_18 hw (ock_1 SB) rfl (o := 3) rfl dX1_replacesBetween_23 ?_
      refine lv_iload_n C.1.1 C.1.2.1 dX1_replacesBetween_26 rfl (lv_at hl 2 rfl) ?_
      obtain ⟨b9, h⟩ := h
      refine y_iald C hw (ack_1_4 SB) xt2 b9 dX1_replacesBetween_27 (fun v9 t9 => ?_)
      refine y_cVOp C (As := [.int v9]) (rest := []) ml_X1_38 (kX1_memberOf l G SB S t9 h) (ock_1 SB) (T := TX1) (N := 8) rfl (by decide) ⟨(Nat.le_of_ble_eq_true rfl), (Nat.le_of_ble_eq_true rfl)⟩ hl.1 rfl rfl (Nat.le_of_ble_eq_true rfl) hw hS dX1_replacesBetween_28 (fun x_10 H locs o10 h hw hS => ?_)
      refine y_getI C fl_X1_99 hw (oc_of SB o10) rfl dX1_replacesBetween_31 (fun v11 t11 => ?_)
      refine y_iconst C dX1_replacesBetween_34 ⟨by decide, by decide⟩ (fun v12 t12 => ?_)
      refine y_icmp_ge C t11 t12 dX1_replacesBetween_35 (tgt := 60) (by decide) (fun c13 => ?_) (fun c13 => ?_)
      · have h := h.1 c13
        refine y_iconst C dX1_replacesBetween_60 ⟨by decide, by decide⟩ (fun v14 t14 => ?_)
        exact y_zret C hw hS t14 (Or.inr rfl) ⟨h, rfl⟩ dX1_replacesBetween_61
      · have h := h.2 c13
        refine lv_aload_n C.1.1 C.1.2.1 dX1_replacesBetween_38 rfl (lv_at hl 0 rfl) ?_
        obtain ⟨x_15, e15⟩ : ∃ z : Int, z = S 1037 0 := ⟨_, rfl⟩
        obtain ⟨o15, h⟩ := h x_15 e15
        refine y_getO C fl_X1_25 hw (ock_1 SB) rfl e15 o15 dX1_replacesBetween_39 ?_
        refine lv_aload_n C.1.1 C.1.2.1 dX1_replacesBetween_42 rfl (lv_at hl 0 rfl) ?_
        refine y_getA C fl_X1_15 hw (ock_1 SB) rfl (o := 2) rfl dX1_replacesBetween_43 ?_
        refine lv_iload_n C.1.1 C.1.2.1 dX1_replacesBetween_46 rfl (lv_at hl 1 rfl) ?_
        obtain ⟨b17, h⟩ := h
        refine y_iald C hw (ack_1_3 SB) xt1 b17 dX1_replacesBetween_47 (fun v17 t17 => ?_)
        refine lv_aload_n C.1.1 C.1.2.1 dX1_replacesBetween_48 rfl (lv_at hl 0 rfl) ?_
        refine y_getA C fl_X1_15 hw (ock_1 SB) rfl (o := 2) rfl dX1_replacesBetween_49 ?_
        refine lv_iload_n C.1.1 C.1.2.1 dX1_replacesBetween_52 rfl (lv_at hl 2 rfl) ?_
        obtain ⟨b19, h⟩ := h
        refine y_iald C hw (ack_1_3 SB) xt2 b19 dX1_replacesBetween_53 (fun v19 t19 => ?_)
        refine y_cVIp C (As := [.int v17, .int v19]) (rest := []) ml_X1_105 (kX2_samePackage l G SB S o15 t17 t19 h) (oc_of SB o15) (T := TX2) (N := 9) rfl (by decide) ⟨(Nat.le_of_ble_eq_true rfl), (Nat.le_of_ble_eq_true rfl)⟩ hl.1 rfl rfl (Nat.le_of_ble_eq_true rfl) hw hS dX1_replacesBetween_54 (fun v20 x_20 H locs t20 h hw hS => ?_)
        refine y_if_eq C t20 dX1_replacesBetween_57 (tgt := 62) (by decide) (fun c21 => ?_) (fun c21 => ?_)
        · have h := h.1 c21
          obtain ⟨x_22, e22⟩ : ∃ z : Int, z = w32 (x2 + 1) := ⟨_, rfl⟩
          have h := h x_22 e22
          obtain ⟨v22, t22, g22⟩ : ∃ z : Int32, z.toInt = x_22 ∧ xv2 + Int32.ofInt 1 = z := ⟨_, (ti_inc xt2 ⟨by decide, by decide⟩).trans e22.symm, rfl⟩
          refine lv_iinc (v := v22) (lv' := [(2, .int v22), (0, .ref (G.2.2 1037)), (1, .int xv1)]) C.1.1 C.1.2.1 dX1_replacesBetween_62 hl (k := 2) rfl g22 (by decide) rfl (fun ls hl => ?_)
          refine lv_goto (tgt := 4) C.1.1 C.1.2.1 dX1_replacesBetween_65 (by decide) ?_
          exact hP4 t22 hw hS (lv_sub hl [1, 2, 0] rfl) h
        · have h := h.2 c21
          refine y_iconst C dX1_replacesBetween_60 ⟨by decide, by decide⟩ (fun v23 t23 => ?_)
          exact y_zret C hw hS t23 (Or.inr rfl) ⟨h, rfl⟩ dX1_replacesBetween_61
set_option maxHeartbeats 4000000 in
set_option maxRecDepth 10000 in
theorem uX1_replacesBetween_4 {p : Program} {l : Launch} {e : Env} {s : State} {m : MethodId} {args : Array Value} {below : List Frame} {meth : Method} {c : Code} {G : GG} {SB : St} (C : Cx p s m args meth c G RX1 cX1_replacesBetween 3 (some .boolean)) {S : St} {H : Heap} {locs : List Loc} {ls : Array Slot}  {k : Int → Prop} (hw : Wd G ((injC SB) S) H) (hS : va_S (AG G) s.heap H locs) {xv1 : Int32} {x1 : Int} (xt1 : xv1.toInt = x1) {xv2 : Int32} {x2 : Int} (xt2 : xv2.toInt = x2) (hl : lv_has ls 3 [(0, .ref (G.2.2 1037)), (1, .int xv1), (2, .int xv2)])  (h : wX1_replacesBetween_4 S x1 x2 k) : W p l e (rmF 1 22) s m args below meth c H locs 0 0 (MQ below (QcI G (injC SB) (fun r u => k r ∧ u = S)) args s 0 0 (AG G)) (F0 m 4 ls []) := by
  have key : ∀ (n : Nat) {H : Heap} {locs : List Loc} {ls : Array Slot} {xv2 : Int32} {x2 : Int}, xv2.toInt = x2 → Wd G ((injC SB) S) H → va_S (AG G) s.heap H locs → lv_has ls 3 [(0, .ref (G.2.2 1037)), (1, .int xv1), (2, .int xv2)] → itP (fun (P : Int → Prop) (a : Int) => wX1_replacesBetween_4_b S x1 a (fun b0 => P (b0)) k) n (x2) → W p l e (rmF 1 22) s m args below meth c H locs 0 0 (MQ below (QcI G (injC SB) (fun r u => k r ∧ u = S)) args s 0 0 (AG G)) (F0 m 4 ls []) := by
    intro n
    induction n with
    | zero => intro H locs ls xv2 x2 xt2 hw hS hl h; exact h.elim
    | succ n ih =>
      intro H locs ls xv2 x2 xt2 hw hS hl h
      exact uX1_replacesBetween_4_b C hw hS xt1 xt2 hl  (P4 := fun b0 => itP _ n (b0)) (fun q0 hw hS hl h => ih q0 hw hS hl h) h
  obtain ⟨n, hn⟩ := h
  exact key n xt2 hw hS hl hn
set_option maxHeartbeats 4000000 in
set_option maxRecDepth 10000 in
theorem uX1_replacesBetween_0 {p : Program} {l : Launch} {e : Env} {s : State} {m : MethodId} {args : Array Value} {below : List Frame} {meth : Method} {c : Code} {G : GG} {SB : St} (C : Cx p s m args meth c G RX1 cX1_replacesBetween 3 (some .boolean)) {S : St} {H : Heap} {locs : List Loc} {ls : Array Slot}  {k : Int → Prop} (hw : Wd G ((injC SB) S) H) (hS : va_S (AG G) s.heap H locs) {xv1 : Int32} {x1 : Int} (xt1 : xv1.toInt = x1) (hl : lv_has ls 3 [(0, .ref (G.2.2 1037)), (1, .int xv1)])  (h : wX1_replacesBetween_0 S x1 k) : W p l e (rmF 1 22) s m args below meth c H locs 0 0 (MQ below (QcI G (injC SB) (fun r u => k r ∧ u = S)) args s 0 0 (AG G)) (F0 m 0 ls []) := by
  refine lv_iload_n C.1.1 C.1.2.1 dX1_replacesBetween_0 rfl (lv_at hl 1 rfl) ?_
  refine y_iconst C dX1_replacesBetween_1 ⟨by decide, by decide⟩ (fun v1 t1 => ?_)
  refine y_iadd C xt1 t1 dX1_replacesBetween_2 (fun v2 t2 => ?_)
  obtain ⟨x_3, e3⟩ : ∃ z : Int, z = w32 (x1 + 1) := ⟨_, rfl⟩
  have h := h x_3 e3
  have t3 := t2.trans e3.symm
  refine lv_istore_n (lv' := [(2, .int v2), (0, .ref (G.2.2 1037)), (1, .int xv1)]) C.1.1 C.1.2.1 dX1_replacesBetween_3 rfl hl (by decide) rfl (fun ls hl => ?_)
  exact uX1_replacesBetween_4 C hw hS xt1 t3 (lv_sub hl [1, 2, 0] rfl)  h
theorem kX1_replacesBetween (l : Launch) (G : GG) (SB S : St) {xv1 : Int32} {x1 : Int} (xt1 : xv1.toInt = x1) {k : Int → Prop} (h : wX1_replacesBetween S x1 k) : CnI l yX1_replacesBetween cX1_replacesBetween 3 (some .boolean) 1 22 G (injC SB) [.ref (G.2.2 1037), .int xv1] S (fun r u => k r ∧ u = S) :=
  cn_body (by decide +kernel) (Nat.le_of_ble_eq_true rfl) (fun p e s m args below meth c ls C hw hl => uX1_replacesBetween_0 C hw va_S.rf xt1 (lv_sub hl [0, 1] rfl) h)
set_option maxHeartbeats 4000000 in
set_option maxRecDepth 10000 in
theorem uX1_markReplacing_93 {p : Program} {l : Launch} {e : Env} {s : State} {m : MethodId} {args : Array Value} {below : List Frame} {meth : Method} {c : Code} {G : GG} {SB : St} (C : Cx p s m args meth c G RX1 cX1_markReplacing 5 none) {S : St} {H : Heap} {locs : List Loc} {ls : Array Slot} {P25 : Int → St → Prop} {k : St → Prop} (hw : Wd G ((injC SB) S) H) (hS : va_S (AG G) s.heap H locs) {xv1 : Int32} {x1 : Int} (xt1 : xv1.toInt = x1) {xv2 : Int32} {x2 : Int} (xt2 : xv2.toInt = x2) {xv3 : Int32} {x3 : Int} (xt3 : xv3.toInt = x3) {sv1 : Int32} {s1 : Int} (st1 : sv1.toInt = s1) {sv2 : Int32} {s2 : Int} (st2 : sv2.toInt = s2) (hl : lv_has ls 5 [(0, .ref (G.2.2 1037)), (1, .int xv1), (2, .int xv2), (3, .int xv3)]) (hP25 : ∀ {H : Heap} {locs : List Loc} {ls : Array Slot} {Sy : St} {yv3 : Int32} {y3 : Int}, yv3.toInt = y3 → Wd G ((injC SB) Sy) H → va_S (AG G) s.heap H locs → lv_has ls 5 [(0, .ref (G.2.2 1037)), (1, .int xv1), (2, .int xv2), (3, .int yv3)] → P25 y3 Sy → W p l e (rmF 2 44) s m args below meth c H locs 0 0 (MQ below (QcV G (injC SB) k) args s 0 0 (AG G)) (F0 m 25 ls [])) (h : wX1_markReplacing_93 S x1 x2 x3 s1 s2 P25 k) : W p l e (rmF 2 44) s m args below meth c H locs 0 0 (MQ below (QcV G (injC SB) k) args s 0 0 (AG G)) (F0 m 93 ls [.int sv2, .int sv1, .ref (G.2.2 (1041))]) := by
  obtain ⟨b1, h⟩ := h
  obtain ⟨z1, h⟩ := h
  obtain ⟨S_1, e1⟩ : ∃ z : St, z = up S 1041 s1 s2 := ⟨_, rfl⟩
  have h := h S_1 e1
  refine y_zast C hw hS (ack_1_5 SB) st1 st2 z1 b1 dX1_markReplacing_93 (fun H locs hw hS => ?_)
  have hw : Wd G ((injC SB) S_1) H := by rw [e1]; exact hw
  obtain ⟨x_2, e2⟩ : ∃ z : Int, z = w32 (x3 + (-1)) := ⟨_, rfl⟩
  have h := h x_2 e2
  obtain ⟨v2, t2, g2⟩ : ∃ z : Int32, z.toInt = x_2 ∧ xv3 + Int32.ofInt (-1) = z := ⟨_, (ti_inc xt3 ⟨by decide, by decide⟩).trans e2.symm, rfl⟩
  refine lv_iinc (v := v2) (lv' := [(3, .int v2), (0, .ref (G.2.2 1037)), (1, .int xv1), (2, .int xv2)]) C.1.1 C.1.2.1 dX1_markReplacing_94 hl (k := 3) rfl g2 (by decide) rfl (fun ls hl => ?_)
  refine lv_goto (tgt := 25) C.1.1 C.1.2.1 dX1_markReplacing_97 (by decide) ?_
  exact hP25 t2 hw hS (lv_sub hl [1, 2, 3, 0] rfl) h
set_option maxHeartbeats 4000000 in
set_option maxRecDepth 10000 in
theorem uX1_markReplacing_88 {p : Program} {l : Launch} {e : Env} {s : State} {m : MethodId} {args : Array Value} {below : List Frame} {meth : Method} {c : Code} {G : GG} {SB : St} (C : Cx p s m args meth c G RX1 cX1_markReplacing 5 none) {S : St} {H : Heap} {locs : List Loc} {ls : Array Slot} {P25 : Int → St → Prop} {k : St → Prop} (hw : Wd G ((injC SB) S) H) (hS : va_S (AG G) s.heap H locs) {xv1 : Int32} {x1 : Int} (xt1 : xv1.toInt = x1) {xv2 : Int32} {x2 : Int} (xt2 : xv2.toInt = x2) {xv3 : Int32} {x3 : Int} (xt3 : xv3.toInt = x3) {sv1 : Int32} {s1 : Int} (st1 : sv1.toInt = s1) (hl : lv_has ls 5 [(0, .ref (G.2.2 1037)), (1, .int xv1), (2, .int xv2), (3, .int xv3)]) (hP25 : ∀ {H : Heap} {locs : List Loc} {ls : Array Slot} {Sy : St} {yv3 : Int32} {y3 : Int}, yv3.toInt = y3 → Wd G ((injC SB) Sy) H → va_S (AG G) s.heap H locs → lv_has ls 5 [(0, .ref (G.2.2 1037)), (1, .int xv1), (2, .int xv2), (3, .int yv3)] → P25 y3 Sy → W p l e (rmF 2 44) s m args below meth c H locs 0 0 (MQ below (QcV G (injC SB) k) args s 0 0 (AG G)) (F0 m 25 ls [])) (h : wX1_markReplacing_88 S x1 x2 x3 s1 P25 k) : W p l e (rmF 2 44) s m args below meth c H locs 0 0 (MQ below (QcV G (injC SB) k) args s 0 0 (AG G)) (F0 m 88 ls [.int sv1, .ref (G.2.2 (1041))]) := by
  refine y_iconst C dX1_markReplacing_88 ⟨by decide, by decide⟩ (fun v1 t1 => ?_)
  refine lv_goto (tgt := 93) C.1.1 C.1.2.1 dX1_markReplacing_89 (by decide) ?_
  exact uX1_markReplacing_93 C hw hS xt1 xt2 xt3 st1 t1 (lv_sub hl [0, 1, 2, 3] rfl) hP25 h
set_option maxHeartbeats 4000000 in
set_option maxRecDepth 10000 in
theorem uX1_markReplacing_92 {p : Program} {l : Launch} {e : Env} {s : State} {m : MethodId} {args : Array Value} {below : List Frame} {meth : Method} {c : Code} {G : GG} {SB : St} (C : Cx p s m args meth c G RX1 cX1_markReplacing 5 none) {S : St} {H : Heap} {locs : List Loc} {ls : Array Slot} {P25 : Int → St → Prop} {k : St → Prop} (hw : Wd G ((injC SB) S) H) (hS : va_S (AG G) s.heap H locs) {xv1 : Int32} {x1 : Int} (xt1 : xv1.toInt = x1) {xv2 : Int32} {x2 : Int} (xt2 : xv2.toInt = x2) {xv3 : Int32} {x3 : Int} (xt3 : xv3.toInt = x3) {sv1 : Int32} {s1 : Int} (st1 : sv1.toInt = s1) (hl : lv_has ls 5 [(0, .ref (G.2.2 1037)), (1, .int xv1), (2, .int xv2), (3, .int xv3)]) (hP25 : ∀ {H : Heap} {locs : List Loc} {ls : Array Slot} {Sy : St} {yv3 : Int32} {y3 : Int}, yv3.toInt = y3 → Wd G ((injC SB) Sy) H → va_S (AG G) s.heap H locs → lv_has ls 5 [(0, .ref (G.2.2 1037)), (1, .int xv1), (2, .int xv2), (3, .int yv3)] → P25 y3 Sy → W p l e (rmF 2 44) s m args below meth c H locs 0 0 (MQ below (QcV G (injC SB) k) args s 0 0 (AG G)) (F0 m 25 ls [])) (h : wX1_markReplacing_92 S x1 x2 x3 s1 P25 k) : W p l e (rmF 2 44) s m args below meth c H locs 0 0 (MQ below (QcV G (injC SB) k) args s 0 0 (AG G)) (F0 m 92 ls [.int sv1, .ref (G.2.2 (1041))]) := by
  refine y_iconst C dX1_markReplacing_92 ⟨by decide, by decide⟩ (fun v1 t1 => ?_)
  exact uX1_markReplacing_93 C hw hS xt1 xt2 xt3 st1 t1 (lv_sub hl [0, 1, 2, 3] rfl) hP25 h
set_option maxHeartbeats 4000000 in
set_option maxRecDepth 10000 in
theorem uX1_markReplacing_25_b {p : Program} {l : Launch} {e : Env} {s : State} {m : MethodId} {args : Array Value} {below : List Frame} {meth : Method} {c : Code} {G : GG} {SB : St} (C : Cx p s m args meth c G RX1 cX1_markReplacing 5 none) {S : St} {H : Heap} {locs : List Loc} {ls : Array Slot}  {P25 : Int → St → Prop} {k : St → Prop} (hw : Wd G ((injC SB) S) H) (hS : va_S (AG G) s.heap H locs) {xv1 : Int32} {x1 : Int} (xt1 : xv1.toInt = x1) {xv2 : Int32} {x2 : Int} (xt2 : xv2.toInt = x2) {xv3 : Int32} {x3 : Int} (xt3 : xv3.toInt = x3) (hl : lv_has ls 5 [(0, .ref (G.2.2 1037)), (1, .int xv1), (2, .int xv2), (3, .int xv3)])  (hP25 : ∀ {H : Heap} {locs : List Loc} {ls : Array Slot} {Sy : St} {yv3 : Int32} {y3 : Int}, yv3.toInt = y3 → Wd G ((injC SB) Sy) H → va_S (AG G) s.heap H locs → lv_has ls 5 [(0, .ref (G.2.2 1037)), (1, .int xv1), (2, .int xv2), (3, .int yv3)] → P25 y3 Sy → W p l e (rmF 2 44) s m args below meth c H locs 0 0 (MQ below (QcV G (injC SB) k) args s 0 0 (AG G)) (F0 m 25 ls [])) (h : wX1_markReplacing_25_b S x1 x2 x3 P25 k) : W p l e (rmF 2 44) s m args below meth c H locs 0 0 (MQ below (QcV G (injC SB) k) args s 0 0 (AG G)) (F0 m 25 ls []) := by
  refine lv_iload_n C.1.1 C.1.2.1 dX1_markReplacing_25 rfl (lv_at hl 3 rfl) ?_
  refine y_if_lt C xt3 dX1_markReplacing_26 (tgt := 100) (by decide) (fun c1 => ?_) (fun c1 => ?_)
  · have h := h.1 c1
    exact y_vret C hw hS h dX1_markReplacing_100
  · have h := h.2 c1
    refine lv_aload_n C.1.1 C.1.2.1 dX1_markReplacing_29 rfl (lv_at hl 0 rfl) ?_
    refine y_getA C fl_X1_18 hw (ock_1 SB) rfl (o := 3) rfl dX1_markReplacing_30 ?_
    refine lv_iload_n C.1.1 C.1.2.1 dX1_markReplacing_33 rfl (lv_at hl 3 rfl) ?_
    obtain ⟨b3, h⟩ := h
    refine y_iald C hw (ack_1_4 SB) xt3 b3 dX1_markReplacing_34 (fun v3 t3 => ?_)
    obtain ⟨x_4, e4⟩ : ∃ z : Int, z = S 1040 x3 := ⟨_, rfl⟩
    have h := h x_4 e4
    have t4 := t3.trans e4.symm
    refine lv_istore (lv' := [(4, .int v3), (0, .ref (G.2.2 1037)), (1, .int xv1), (2, .int xv2), (3, .int xv3)]) C.1.1 C.1.2.1 dX1_markReplacing_35 hl (by decide) rfl (fun ls hl => ?_)
    refine lv_iload C.1.1 C.1.2.1 dX1_markReplacing_37 (lv_at hl 0 rfl) ?_
    refine y_iconst C dX1_markReplacing_39 ⟨by decide, by decide⟩ (fun v5 t5 => ?_)
    refine y_icmp_ne C t4 t5 dX1_markReplacing_40 (tgt := 53) (by decide) (fun c6 => ?_) (fun c6 => ?_)
    · have h := h.1 c6
      refine lv_aload_n C.1.1 C.1.2.1 dX1_markReplacing_53 rfl (lv_at hl 1 rfl) ?_
      refine y_getA C fl_X1_21 hw (ock_1 SB) rfl (o := 4) rfl dX1_markReplacing_54 ?_
      refine lv_iload_n C.1.1 C.1.2.1 dX1_markReplacing_57 rfl (lv_at hl 4 rfl) ?_
      refine lv_iload C.1.1 C.1.2.1 dX1_markReplacing_58 (lv_at hl 0 rfl) ?_
      refine lv_iload_n C.1.1 C.1.2.1 dX1_markReplacing_60 rfl (lv_at hl 2 rfl) ?_
      refine y_icmp_eq C t4 xt1 dX1_markReplacing_61 (tgt := 88) (by decide) (fun c8 => ?_) (fun c8 => ?_)
      · have h := h.1 c8
        exact uX1_markReplacing_88 C hw hS xt1 xt2 xt3 xt3 (lv_sub hl [1, 2, 3, 4] rfl) hP25 h
      · have h := h.2 c8
        refine lv_aload_n C.1.1 C.1.2.1 dX1_markReplacing_64 rfl (lv_at hl 1 rfl) ?_
        refine lv_iload C.1.1 C.1.2.1 dX1_markReplacing_65 (lv_at hl 0 rfl) ?_
        refine y_cVOp C (As := [.int v3]) (rest := [.int xv3, .ref (G.2.2 (1041))]) ml_X1_38 (kX1_memberOf l G SB S t4 h) (ock_1 SB) (T := TX1) (N := 8) rfl (by decide) ⟨(Nat.le_of_ble_eq_true rfl), (Nat.le_of_ble_eq_true rfl)⟩ hl.1 rfl rfl (Nat.le_of_ble_eq_true rfl) hw hS dX1_markReplacing_67 (fun x_9 H locs o9 h hw hS => ?_)
        refine y_cVIp C (As := []) (rest := [.int xv3, .ref (G.2.2 (1041))]) ml_X1_82 (kX3_isFree l G SB S o9 h) (oc_of SB o9) (T := TX3) (N := 8) rfl (by decide) ⟨(Nat.le_of_ble_eq_true rfl), (Nat.le_of_ble_eq_true rfl)⟩ hl.1 rfl rfl (Nat.le_of_ble_eq_true rfl) hw hS dX1_markReplacing_70 (fun v10 x_10 H locs t10 h hw hS => ?_)
        refine y_if_eq C t10 dX1_markReplacing_73 (tgt := 92) (by decide) (fun c11 => ?_) (fun c11 => ?_)
        · have h := h.1 c11
          exact uX1_markReplacing_92 C hw hS xt1 xt2 xt3 xt3 (lv_sub hl [1, 2, 3, 4] rfl) hP25 h
        · have h := h.2 c11
          refine lv_iload_n C.1.1 C.1.2.1 dX1_markReplacing_76 rfl (lv_at hl 3 rfl) ?_
          refine y_if_ne C xt2 dX1_markReplacing_77 (tgt := 88) (by decide) (fun c12 => ?_) (fun c12 => ?_)
          · have h := h.1 c12
            exact uX1_markReplacing_88 C hw hS xt1 xt2 xt3 xt3 (lv_sub hl [1, 2, 3, 4] rfl) hP25 h
          · have h := h.2 c12
            refine lv_aload_n C.1.1 C.1.2.1 dX1_markReplacing_80 rfl (lv_at hl 1 rfl) ?_
            refine lv_iload_n C.1.1 C.1.2.1 dX1_markReplacing_81 rfl (lv_at hl 4 rfl) ?_
            refine y_cVIp C (As := [.int xv3]) (rest := [.int xv3, .ref (G.2.2 (1041))]) ml_X1_132 (kX1_replacesBetween l G SB S xt3 h) (ock_1 SB) (T := TX1) (N := 8) rfl (by decide) ⟨(Nat.le_of_ble_eq_true rfl), (Nat.le_of_ble_eq_true rfl)⟩ hl.1 rfl rfl (Nat.le_of_ble_eq_true rfl) hw hS dX1_markReplacing_82 (fun v13 x_13 H locs t13 h hw hS => ?_)
            refine y_if_eq C t13 dX1_markReplacing_85 (tgt := 92) (by decide) (fun c14 => ?_) (fun c14 => ?_)
            · have h := h.1 c14
              exact uX1_markReplacing_92 C hw hS xt1 xt2 xt3 xt3 (lv_sub hl [1, 2, 3, 4] rfl) hP25 h
            · have h := h.2 c14
              exact uX1_markReplacing_88 C hw hS xt1 xt2 xt3 xt3 (lv_sub hl [1, 2, 3, 4] rfl) hP25 h
    · have h := h.2 c6
      refine lv_aload_n C.1.1 C.1.2.1 dX1_markReplacing_43 rfl (lv_at hl 1 rfl) ?_
      refine y_getA C fl_X1_21 hw (ock_1 SB) rfl (o := 4) rfl dX1_markReplacing_44 ?_
      refine lv_iload_n C.1.1 C.1.2.1 dX1_markReplacing_47 rfl (lv_at hl 4 rfl) ?_
      refine y_iconst C dX1_markReplacing_48 ⟨by decide, by decide⟩ (fun v16 t16 => ?_)
      obtain ⟨b17, h⟩ := h
      obtain ⟨S_17, e17⟩ : ∃ z : St, z = up S 1041 x3 0 := ⟨_, rfl⟩
      have h := h S_17 e17
      refine y_zast C hw hS (ack_1_5 SB) xt3 t16 (Or.inl rfl) b17 dX1_markReplacing_49 (fun H locs hw hS => ?_)
      have hw : Wd G ((injC SB) S_17) H := by rw [e17]; exact hw
      refine lv_goto (tgt := 94) C.1.1 C.1.2.1 dX1_markReplacing_50 (by decide) ?_
      obtain ⟨x_18, e18⟩ : ∃ z : Int, z = w32 (x3 + (-1)) := ⟨_, rfl⟩
      have h := h x_18 e18
      obtain ⟨v18, t18, g18⟩ : ∃ z : Int32, z.toInt = x_18 ∧ xv3 + Int32.ofInt (-1) = z := ⟨_, (ti_inc xt3 ⟨by decide, by decide⟩).trans e18.symm, rfl⟩
      refine lv_iinc (v := v18) (lv' := [(3, .int v18), (4, .int v3), (0, .ref (G.2.2 1037)), (1, .int xv1), (2, .int xv2)]) C.1.1 C.1.2.1 dX1_markReplacing_94 hl (k := 4) rfl g18 (by decide) rfl (fun ls hl => ?_)
      refine lv_goto (tgt := 25) C.1.1 C.1.2.1 dX1_markReplacing_97 (by decide) ?_
      exact hP25 t18 hw hS (lv_sub hl [2, 3, 4, 0] rfl) h
set_option maxHeartbeats 4000000 in
set_option maxRecDepth 10000 in
theorem uX1_markReplacing_25 {p : Program} {l : Launch} {e : Env} {s : State} {m : MethodId} {args : Array Value} {below : List Frame} {meth : Method} {c : Code} {G : GG} {SB : St} (C : Cx p s m args meth c G RX1 cX1_markReplacing 5 none) {S : St} {H : Heap} {locs : List Loc} {ls : Array Slot}  {k : St → Prop} (hw : Wd G ((injC SB) S) H) (hS : va_S (AG G) s.heap H locs) {xv1 : Int32} {x1 : Int} (xt1 : xv1.toInt = x1) {xv2 : Int32} {x2 : Int} (xt2 : xv2.toInt = x2) {xv3 : Int32} {x3 : Int} (xt3 : xv3.toInt = x3) (hl : lv_has ls 5 [(0, .ref (G.2.2 1037)), (1, .int xv1), (2, .int xv2), (3, .int xv3)])  (h : wX1_markReplacing_25 S x1 x2 x3 k) : W p l e (rmF 2 44) s m args below meth c H locs 0 0 (MQ below (QcV G (injC SB) k) args s 0 0 (AG G)) (F0 m 25 ls []) := by
  have key : ∀ (n : Nat) {H : Heap} {locs : List Loc} {ls : Array Slot} {S : St} {xv3 : Int32} {x3 : Int}, xv3.toInt = x3 → Wd G ((injC SB) S) H → va_S (AG G) s.heap H locs → lv_has ls 5 [(0, .ref (G.2.2 1037)), (1, .int xv1), (2, .int xv2), (3, .int xv3)] → itP (fun (P : Int × St → Prop) (a : Int × St) => wX1_markReplacing_25_b a.2 x1 x2 a.1 (fun b0 b1 => P (b0, b1)) k) n (x3, S) → W p l e (rmF 2 44) s m args below meth c H locs 0 0 (MQ below (QcV G (injC SB) k) args s 0 0 (AG G)) (F0 m 25 ls []) := by
    intro n
    induction n with
    | zero => intro H locs ls S xv3 x3 xt3 hw hS hl h; exact h.elim
    | succ n ih =>
      intro H locs ls S xv3 x3 xt3 hw hS hl h
      exact uX1_markReplacing_25_b C hw hS xt1 xt2 xt3 hl  (P25 := fun b0 b1 => itP _ n (b0, b1)) (fun q0 hw hS hl h => ih q0 hw hS hl h) h
  obtain ⟨n, hn⟩ := h
  exact key n xt3 hw hS hl hn
set_option maxHeartbeats 4000000 in
set_option maxRecDepth 10000 in
theorem uX1_markReplacing_17 {p : Program} {l : Launch} {e : Env} {s : State} {m : MethodId} {args : Array Value} {below : List Frame} {meth : Method} {c : Code} {G : GG} {SB : St} (C : Cx p s m args meth c G RX1 cX1_markReplacing 5 none) {S : St} {H : Heap} {locs : List Loc} {ls : Array Slot}  {k : St → Prop} (hw : Wd G ((injC SB) S) H) (hS : va_S (AG G) s.heap H locs) {xv1 : Int32} {x1 : Int} (xt1 : xv1.toInt = x1) {sv0 : Int32} {s0 : Int} (st0 : sv0.toInt = s0) (hl : lv_has ls 5 [(0, .ref (G.2.2 1037)), (1, .int xv1)])  (h : wX1_markReplacing_17 S x1 s0 k) : W p l e (rmF 2 44) s m args below meth c H locs 0 0 (MQ below (QcV G (injC SB) k) args s 0 0 (AG G)) (F0 m 17 ls [.int sv0]) := by
  refine lv_istore_n (lv' := [(2, .int sv0), (0, .ref (G.2.2 1037)), (1, .int xv1)]) C.1.1 C.1.2.1 dX1_markReplacing_17 rfl hl (by decide) rfl (fun ls hl => ?_)
  refine lv_aload_n C.1.1 C.1.2.1 dX1_markReplacing_18 rfl (lv_at hl 1 rfl) ?_
  refine y_getI C fl_X1_129 hw (ock_1 SB) rfl dX1_markReplacing_19 (fun v1 t1 => ?_)
  refine y_iconst C dX1_markReplacing_22 ⟨by decide, by decide⟩ (fun v2 t2 => ?_)
  refine y_isub C t1 t2 dX1_markReplacing_23 (fun v3 t3 => ?_)
  obtain ⟨x_4, e4⟩ : ∃ z : Int, z = w32 ((S 1037 6) - 1) := ⟨_, rfl⟩
  have h := h x_4 e4
  have t4 := t3.trans e4.symm
  refine lv_istore_n (lv' := [(3, .int v3), (2, .int sv0), (0, .ref (G.2.2 1037)), (1, .int xv1)]) C.1.1 C.1.2.1 dX1_markReplacing_24 rfl hl (by decide) rfl (fun ls hl => ?_)
  exact uX1_markReplacing_25 C hw hS xt1 st0 t4 (lv_sub hl [2, 3, 1, 0] rfl)  h
set_option maxHeartbeats 4000000 in
set_option maxRecDepth 10000 in
theorem uX1_markReplacing_0 {p : Program} {l : Launch} {e : Env} {s : State} {m : MethodId} {args : Array Value} {below : List Frame} {meth : Method} {c : Code} {G : GG} {SB : St} (C : Cx p s m args meth c G RX1 cX1_markReplacing 5 none) {S : St} {H : Heap} {locs : List Loc} {ls : Array Slot}  {k : St → Prop} (hw : Wd G ((injC SB) S) H) (hS : va_S (AG G) s.heap H locs) {xv1 : Int32} {x1 : Int} (xt1 : xv1.toInt = x1) (hl : lv_has ls 5 [(0, .ref (G.2.2 1037)), (1, .int xv1)])  (h : wX1_markReplacing_0 S x1 k) : W p l e (rmF 2 44) s m args below meth c H locs 0 0 (MQ below (QcV G (injC SB) k) args s 0 0 (AG G)) (F0 m 0 ls []) := by
  refine lv_aload_n C.1.1 C.1.2.1 dX1_markReplacing_0 rfl (lv_at hl 0 rfl) ?_
  refine lv_iload_n C.1.1 C.1.2.1 dX1_markReplacing_1 rfl (lv_at hl 1 rfl) ?_
  refine y_cVOp C (As := [.int xv1]) (rest := []) ml_X1_38 (kX1_memberOf l G SB S xt1 h) (ock_1 SB) (T := TX1) (N := 8) rfl (by decide) ⟨(Nat.le_of_ble_eq_true rfl), (Nat.le_of_ble_eq_true rfl)⟩ hl.1 rfl rfl (Nat.le_of_ble_eq_true rfl) hw hS dX1_markReplacing_2 (fun x_1 H locs o1 h hw hS => ?_)
  refine y_getI C fl_X1_99 hw (oc_of SB o1) rfl dX1_markReplacing_5 (fun v2 t2 => ?_)
  refine y_iconst C dX1_markReplacing_8 ⟨by decide, by decide⟩ (fun v3 t3 => ?_)
  refine y_icmp_lt C t2 t3 dX1_markReplacing_9 (tgt := 16) (by decide) (fun c4 => ?_) (fun c4 => ?_)
  · have h := h.1 c4
    refine y_iconst C dX1_markReplacing_16 ⟨by decide, by decide⟩ (fun v5 t5 => ?_)
    exact uX1_markReplacing_17 C hw hS xt1 t5 (lv_sub hl [0, 1] rfl)  h
  · have h := h.2 c4
    refine y_iconst C dX1_markReplacing_12 ⟨by decide, by decide⟩ (fun v6 t6 => ?_)
    refine lv_goto (tgt := 17) C.1.1 C.1.2.1 dX1_markReplacing_13 (by decide) ?_
    exact uX1_markReplacing_17 C hw hS xt1 t6 (lv_sub hl [0, 1] rfl)  h
theorem kX1_markReplacing (l : Launch) (G : GG) (SB S : St) {xv1 : Int32} {x1 : Int} (xt1 : xv1.toInt = x1) {k : St → Prop} (h : wX1_markReplacing S x1 k) : CnV l yX1_markReplacing cX1_markReplacing 5 none 2 44 G (injC SB) [.ref (G.2.2 1037), .int xv1] S k :=
  cn_body (by decide +kernel) (Nat.le_of_ble_eq_true rfl) (fun p e s m args below meth c ls C hw hl => uX1_markReplacing_0 C hw va_S.rf xt1 (lv_sub hl [0, 1] rfl) h)
set_option maxHeartbeats 4000000 in
set_option maxRecDepth 10000 in
theorem uX1_select_36_b {p : Program} {l : Launch} {e : Env} {s : State} {m : MethodId} {args : Array Value} {below : List Frame} {meth : Method} {c : Code} {G : GG} {SB : St} (C : Cx p s m args meth c G RX1 cX1_select 5 (some .int)) {S : St} {H : Heap} {locs : List Loc} {ls : Array Slot}  {P36 : Int → Prop} {k : Int → St → Prop} (hw : Wd G ((injC SB) S) H) (hS : va_S (AG G) s.heap H locs) {xv2 : Int32} {x2 : Int} (xt2 : xv2.toInt = x2) {xv3 : Int32} {x3 : Int} (xt3 : xv3.toInt = x3) {xv4 : Int32} {x4 : Int} (xt4 : xv4.toInt = x4) (hl : lv_has ls 5 [(0, .ref (G.2.2 1037)), (2, .int xv2), (3, .int xv3), (4, .int xv4)])  (hP36 : ∀ {H : Heap} {locs : List Loc} {ls : Array Slot} {yv4 : Int32} {y4 : Int}, yv4.toInt = y4 → Wd G ((injC SB) S) H → va_S (AG G) s.heap H locs → lv_has ls 5 [(0, .ref (G.2.2 1037)), (2, .int xv2), (3, .int xv3), (4, .int yv4)] → P36 y4 → W p l e (rmF 3 68) s m args below meth c H locs 0 0 (MQ below (QcI G (injC SB) k) args s 0 0 (AG G)) (F0 m 36 ls [])) (h : wX1_select_36_b S x2 x3 x4 P36 k) : W p l e (rmF 3 68) s m args below meth c H locs 0 0 (MQ below (QcI G (injC SB) k) args s 0 0 (AG G)) (F0 m 36 ls []) := by
  refine lv_iload C.1.1 C.1.2.1 dX1_select_36 (lv_at hl 3 rfl) ?_
  refine lv_aload_n C.1.1 C.1.2.1 dX1_select_38 rfl (lv_at hl 0 rfl) ?_
  refine y_getI C fl_X1_129 hw (ock_1 SB) rfl dX1_select_39 (fun v1 t1 => ?_)
  refine y_icmp_ge C xt4 t1 dX1_select_42 (tgt := 88) (by decide) (fun c2 => ?_) (fun c2 => ?_)
  · have h := h.1 c2
    refine lv_aload_n C.1.1 C.1.2.1 dX1_select_88 rfl (lv_at hl 0 rfl) ?_
    refine lv_iload_n C.1.1 C.1.2.1 dX1_select_89 rfl (lv_at hl 1 rfl) ?_
    refine lv_iload_n C.1.1 C.1.2.1 dX1_select_90 rfl (lv_at hl 2 rfl) ?_
    refine y_cVV C (As := [.int xv2, .int xv3]) (rest := []) ml_X1_65 (kX1_gatherFaces l G SB S xt2 xt3 h) (ock_1 SB) (T := TX1) (N := 8) rfl (by decide) ⟨(Nat.le_of_ble_eq_true rfl), (Nat.le_of_ble_eq_true rfl)⟩ hl.1 rfl rfl (Nat.le_of_ble_eq_true rfl) hw hS dX1_select_91 (fun S_3 H locs h hw hS => ?_)
    refine lv_aload_n C.1.1 C.1.2.1 dX1_select_94 rfl (lv_at hl 0 rfl) ?_
    refine y_cVIp C (As := []) (rest := []) ml_X1_69 (kX1_soleBody l G SB S_3  h) (ock_1 SB) (T := TX1) (N := 8) rfl (by decide) ⟨(Nat.le_of_ble_eq_true rfl), (Nat.le_of_ble_eq_true rfl)⟩ hl.1 rfl rfl (Nat.le_of_ble_eq_true rfl) hw hS dX1_select_95 (fun v4 x_4 H locs t4 h hw hS => ?_)
    exact y_iret C hw hS t4 h dX1_select_98
  · have h := h.2 c2
    refine lv_aload_n C.1.1 C.1.2.1 dX1_select_45 rfl (lv_at hl 0 rfl) ?_
    refine y_getA C fl_X1_21 hw (ock_1 SB) rfl (o := 4) rfl dX1_select_46 ?_
    refine lv_iload C.1.1 C.1.2.1 dX1_select_49 (lv_at hl 3 rfl) ?_
    obtain ⟨b6, h⟩ := h
    refine y_zald C hw (ack_1_5 SB) xt4 b6 dX1_select_51 (fun v6 t6 => ?_)
    refine y_if_eq C t6 dX1_select_52 (tgt := 82) (by decide) (fun c7 => ?_) (fun c7 => ?_)
    · have h := h.1 c7
      obtain ⟨x_8, e8⟩ : ∃ z : Int, z = w32 (x4 + 1) := ⟨_, rfl⟩
      have h := h x_8 e8
      obtain ⟨v8, t8, g8⟩ : ∃ z : Int32, z.toInt = x_8 ∧ xv4 + Int32.ofInt 1 = z := ⟨_, (ti_inc xt4 ⟨by decide, by decide⟩).trans e8.symm, rfl⟩
      refine lv_iinc (v := v8) (lv' := [(4, .int v8), (0, .ref (G.2.2 1037)), (2, .int xv2), (3, .int xv3)]) C.1.1 C.1.2.1 dX1_select_82 hl (k := 3) rfl g8 (by decide) rfl (fun ls hl => ?_)
      refine lv_goto (tgt := 36) C.1.1 C.1.2.1 dX1_select_85 (by decide) ?_
      exact hP36 t8 hw hS (lv_sub hl [1, 2, 3, 0] rfl) h
    · have h := h.2 c7
      refine lv_aload_n C.1.1 C.1.2.1 dX1_select_55 rfl (lv_at hl 0 rfl) ?_
      refine lv_aload_n C.1.1 C.1.2.1 dX1_select_56 rfl (lv_at hl 0 rfl) ?_
      refine y_getA C fl_X1_18 hw (ock_1 SB) rfl (o := 3) rfl dX1_select_57 ?_
      refine lv_iload C.1.1 C.1.2.1 dX1_select_60 (lv_at hl 3 rfl) ?_
      obtain ⟨b10, h⟩ := h
      refine y_iald C hw (ack_1_4 SB) xt4 b10 dX1_select_62 (fun v10 t10 => ?_)
      refine y_cVIp C (As := [.int v10]) (rest := []) ml_X1_92 (kX1_isAbstract l G SB S t10 h) (ock_1 SB) (T := TX1) (N := 8) rfl (by decide) ⟨(Nat.le_of_ble_eq_true rfl), (Nat.le_of_ble_eq_true rfl)⟩ hl.1 rfl rfl (Nat.le_of_ble_eq_true rfl) hw hS dX1_select_63 (fun v11 x_11 H locs t11 h hw hS => ?_)
      refine y_if_eq C t11 dX1_select_66 (tgt := 74) (by decide) (fun c12 => ?_) (fun c12 => ?_)
      · have h := h.1 c12
        refine lv_aload_n C.1.1 C.1.2.1 dX1_select_74 rfl (lv_at hl 0 rfl) ?_
        refine y_getA C fl_X1_18 hw (ock_1 SB) rfl (o := 3) rfl dX1_select_75 ?_
        refine lv_iload C.1.1 C.1.2.1 dX1_select_78 (lv_at hl 3 rfl) ?_
        obtain ⟨b14, h⟩ := h
        refine y_iald C hw (ack_1_4 SB) xt4 b14 dX1_select_80 (fun v14 t14 => ?_)
        exact y_iret C hw hS t14 h dX1_select_81
      · have h := h.2 c12
        refine y_bipush C dX1_select_69 ⟨by decide, by decide⟩ (fun v15 t15 => ?_)
        refine lv_goto (tgt := 81) C.1.1 C.1.2.1 dX1_select_71 (by decide) ?_
        exact y_iret C hw hS t15 h dX1_select_81
set_option maxHeartbeats 4000000 in
set_option maxRecDepth 10000 in
theorem uX1_select_36 {p : Program} {l : Launch} {e : Env} {s : State} {m : MethodId} {args : Array Value} {below : List Frame} {meth : Method} {c : Code} {G : GG} {SB : St} (C : Cx p s m args meth c G RX1 cX1_select 5 (some .int)) {S : St} {H : Heap} {locs : List Loc} {ls : Array Slot}  {k : Int → St → Prop} (hw : Wd G ((injC SB) S) H) (hS : va_S (AG G) s.heap H locs) {xv2 : Int32} {x2 : Int} (xt2 : xv2.toInt = x2) {xv3 : Int32} {x3 : Int} (xt3 : xv3.toInt = x3) {xv4 : Int32} {x4 : Int} (xt4 : xv4.toInt = x4) (hl : lv_has ls 5 [(0, .ref (G.2.2 1037)), (2, .int xv2), (3, .int xv3), (4, .int xv4)])  (h : wX1_select_36 S x2 x3 x4 k) : W p l e (rmF 3 68) s m args below meth c H locs 0 0 (MQ below (QcI G (injC SB) k) args s 0 0 (AG G)) (F0 m 36 ls []) := by
  have key : ∀ (n : Nat) {H : Heap} {locs : List Loc} {ls : Array Slot} {xv4 : Int32} {x4 : Int}, xv4.toInt = x4 → Wd G ((injC SB) S) H → va_S (AG G) s.heap H locs → lv_has ls 5 [(0, .ref (G.2.2 1037)), (2, .int xv2), (3, .int xv3), (4, .int xv4)] → itP (fun (P : Int → Prop) (a : Int) => wX1_select_36_b S x2 x3 a (fun b0 => P (b0)) k) n (x4) → W p l e (rmF 3 68) s m args below meth c H locs 0 0 (MQ below (QcI G (injC SB) k) args s 0 0 (AG G)) (F0 m 36 ls []) := by
    intro n
    induction n with
    | zero => intro H locs ls xv4 x4 xt4 hw hS hl h; exact h.elim
    | succ n ih =>
      intro H locs ls xv4 x4 xt4 hw hS hl h
      exact uX1_select_36_b C hw hS xt2 xt3 xt4 hl  (P36 := fun b0 => itP _ n (b0)) (fun q0 hw hS hl h => ih q0 hw hS hl h) h
  obtain ⟨n, hn⟩ := h
  exact key n xt4 hw hS hl hn
set_option maxHeartbeats 4000000 in
set_option maxRecDepth 10000 in
theorem uX1_select_0 {p : Program} {l : Launch} {e : Env} {s : State} {m : MethodId} {args : Array Value} {below : List Frame} {meth : Method} {c : Code} {G : GG} {SB : St} (C : Cx p s m args meth c G RX1 cX1_select 5 (some .int)) {S : St} {H : Heap} {locs : List Loc} {ls : Array Slot}  {k : Int → St → Prop} (hw : Wd G ((injC SB) S) H) (hS : va_S (AG G) s.heap H locs) {xv1 : Int32} {x1 : Int} (xt1 : xv1.toInt = x1) {xv2 : Int32} {x2 : Int} (xt2 : xv2.toInt = x2) (hl : lv_has ls 5 [(0, .ref (G.2.2 1037)), (1, .int xv1), (2, .int xv2)])  (h : wX1_select_0 S x1 x2 k) : W p l e (rmF 3 68) s m args below meth c H locs 0 0 (MQ below (QcI G (injC SB) k) args s 0 0 (AG G)) (F0 m 0 ls []) := by
  refine lv_aload_n C.1.1 C.1.2.1 dX1_select_0 rfl (lv_at hl 0 rfl) ?_
  refine lv_iload_n C.1.1 C.1.2.1 dX1_select_1 rfl (lv_at hl 1 rfl) ?_
  refine y_cVOp C (As := [.int xv1]) (rest := []) ml_X1_38 (kX1_memberOf l G SB S xt1 h) (ock_1 SB) (T := TX1) (N := 8) rfl (by decide) ⟨(Nat.le_of_ble_eq_true rfl), (Nat.le_of_ble_eq_true rfl)⟩ hl.1 rfl rfl (Nat.le_of_ble_eq_true rfl) hw hS dX1_select_2 (fun x_1 H locs o1 h hw hS => ?_)
  refine y_cVIp C (As := []) (rest := []) ml_X1_115 (kX3_isOwn l G SB S o1 h) (oc_of SB o1) (T := TX3) (N := 8) rfl (by decide) ⟨(Nat.le_of_ble_eq_true rfl), (Nat.le_of_ble_eq_true rfl)⟩ hl.1 rfl rfl (Nat.le_of_ble_eq_true rfl) hw hS dX1_select_5 (fun v2 x_2 H locs t2 h hw hS => ?_)
  refine y_if_eq C t2 dX1_select_8 (tgt := 13) (by decide) (fun c3 => ?_) (fun c3 => ?_)
  · have h := h.1 c3
    refine lv_aload_n C.1.1 C.1.2.1 dX1_select_13 rfl (lv_at hl 0 rfl) ?_
    obtain ⟨x_4, e4⟩ : ∃ z : Int, z = S 1037 0 := ⟨_, rfl⟩
    obtain ⟨o4, h⟩ := h x_4 e4
    refine y_getO C fl_X1_25 hw (ock_1 SB) rfl e4 o4 dX1_select_14 ?_
    refine lv_iload_n C.1.1 C.1.2.1 dX1_select_17 rfl (lv_at hl 1 rfl) ?_
    refine y_cVIp C (As := [.int xv1]) (rest := []) ml_X1_118 (kX2_signatureOf l G SB S o4 xt1 h) (oc_of SB o4) (T := TX2) (N := 9) rfl (by decide) ⟨(Nat.le_of_ble_eq_true rfl), (Nat.le_of_ble_eq_true rfl)⟩ hl.1 rfl rfl (Nat.le_of_ble_eq_true rfl) hw hS dX1_select_18 (fun v5 x_5 H locs t5 h hw hS => ?_)
    refine lv_istore_n (lv' := [(3, .int v5), (0, .ref (G.2.2 1037)), (1, .int xv1), (2, .int xv2)]) C.1.1 C.1.2.1 dX1_select_21 rfl hl (by decide) rfl (fun ls hl => ?_)
    refine lv_aload_n C.1.1 C.1.2.1 dX1_select_22 rfl (lv_at hl 1 rfl) ?_
    refine lv_iload_n C.1.1 C.1.2.1 dX1_select_23 rfl (lv_at hl 3 rfl) ?_
    refine lv_iload_n C.1.1 C.1.2.1 dX1_select_24 rfl (lv_at hl 0 rfl) ?_
    refine y_cVV C (As := [.int xv2, .int v5]) (rest := []) ml_X1_122 (kX1_gatherChain l G SB S xt2 t5 h) (ock_1 SB) (T := TX1) (N := 8) rfl (by decide) ⟨(Nat.le_of_ble_eq_true rfl), (Nat.le_of_ble_eq_true rfl)⟩ hl.1 rfl rfl (Nat.le_of_ble_eq_true rfl) hw hS dX1_select_25 (fun S_6 H locs h hw hS => ?_)
    refine lv_aload_n C.1.1 C.1.2.1 dX1_select_28 rfl (lv_at hl 1 rfl) ?_
    refine lv_iload_n C.1.1 C.1.2.1 dX1_select_29 rfl (lv_at hl 2 rfl) ?_
    refine y_cVV C (As := [.int xv1]) (rest := []) ml_X1_125 (kX1_markReplacing l G SB S_6 xt1 h) (ock_1 SB) (T := TX1) (N := 8) rfl (by decide) ⟨(Nat.le_of_ble_eq_true rfl), (Nat.le_of_ble_eq_true rfl)⟩ hl.1 rfl rfl (Nat.le_of_ble_eq_true rfl) hw hS dX1_select_30 (fun S_7 H locs h hw hS => ?_)
    refine y_iconst C dX1_select_33 ⟨by decide, by decide⟩ (fun v8 t8 => ?_)
    refine lv_istore (lv' := [(4, .int v8), (3, .int v5), (0, .ref (G.2.2 1037)), (1, .int xv1), (2, .int xv2)]) C.1.1 C.1.2.1 dX1_select_34 hl (by decide) rfl (fun ls hl => ?_)
    exact uX1_select_36 C hw hS xt2 t5 t8 (lv_sub hl [2, 4, 1, 0] rfl)  h
  · have h := h.2 c3
    refine lv_iload_n C.1.1 C.1.2.1 dX1_select_11 rfl (lv_at hl 1 rfl) ?_
    exact y_iret C hw hS xt1 h dX1_select_12
theorem kX1_select (l : Launch) (G : GG) (SB S : St) {xv1 : Int32} {x1 : Int} (xt1 : xv1.toInt = x1) {xv2 : Int32} {x2 : Int} (xt2 : xv2.toInt = x2) {k : Int → St → Prop} (h : wX1_select S x1 x2 k) : CnI l yX1_select cX1_select 5 (some .int) 3 68 G (injC SB) [.ref (G.2.2 1037), .int xv1, .int xv2] S k :=
  cn_body (by decide +kernel) (Nat.le_of_ble_eq_true rfl) (fun p e s m args below meth c ls C hw hl => uX1_select_0 C hw va_S.rf xt1 xt2 (lv_sub hl [0, 1, 2] rfl) h)
set_option maxHeartbeats 4000000 in
set_option maxRecDepth 10000 in
theorem uX1_fitsSort_0 {p : Program} {l : Launch} {e : Env} {s : State} {m : MethodId} {args : Array Value} {below : List Frame} {meth : Method} {c : Code} {G : GG} {SB : St} (C : Cx p s m args meth c G RX1 cX1_fitsSort 5 (some .boolean)) {S : St} {H : Heap} {locs : List Loc} {ls : Array Slot}  {k : Int → Prop} (hw : Wd G ((injC SB) S) H) (hS : va_S (AG G) s.heap H locs) {xv1 : Int32} {x1 : Int} (xt1 : xv1.toInt = x1) {xv2 : Int32} {x2 : Int} (xt2 : xv2.toInt = x2) {xv3 : Int32} {x3 : Int} (xt3 : xv3.toInt = x3) (hl : lv_has ls 5 [(0, .ref (G.2.2 1037)), (1, .int xv1), (2, .int xv2), (3, .int xv3)])  (h : wX1_fitsSort_0 S x1 x2 x3 k) : W p l e (rmF 1 22) s m args below meth c H locs 0 0 (MQ below (QcI G (injC SB) (fun r u => k r ∧ u = S)) args s 0 0 (AG G)) (F0 m 0 ls []) := by
  refine lv_aload_n C.1.1 C.1.2.1 dX1_fitsSort_0 rfl (lv_at hl 0 rfl) ?_
  obtain ⟨x_1, e1⟩ : ∃ z : Int, z = S 1037 0 := ⟨_, rfl⟩
  obtain ⟨o1, h⟩ := h x_1 e1
  refine y_getO C fl_X1_25 hw (ock_1 SB) rfl e1 o1 dX1_fitsSort_1 ?_
  refine y_getA C fl_X1_48 hw (oc_of SB o1) rfl (o := 1) rfl dX1_fitsSort_4 ?_
  refine lv_iload_n C.1.1 C.1.2.1 dX1_fitsSort_7 rfl (lv_at hl 3 rfl) ?_
  obtain ⟨b3, h⟩ := h
  obtain ⟨x_3, e3⟩ : ∃ z : Int, z = x_1 + 6 + 6 * x3 := ⟨_, rfl⟩
  have h := h x_3 e3
  have o3 : isO 6 x_3 := isO_ty o1 b3 e3
  refine y_tyO C hw o1 xt3 b3 e3 dX1_fitsSort_8 ?_
  refine y_cVIp C (As := []) (rest := []) ml_X1_52 (kX6_isFace l G SB S o3 h) (oc_of SB o3) (T := TX6) (N := 20) rfl (by decide) ⟨(Nat.le_of_ble_eq_true rfl), (Nat.le_of_ble_eq_true rfl)⟩ hl.1 rfl rfl (Nat.le_of_ble_eq_true rfl) hw hS dX1_fitsSort_9 (fun v4 x_4 H locs t4 h hw hS => ?_)
  refine lv_istore (lv' := [(4, .int v4), (0, .ref (G.2.2 1037)), (1, .int xv1), (2, .int xv2), (3, .int xv3)]) C.1.1 C.1.2.1 dX1_fitsSort_12 hl (by decide) rfl (fun ls hl => ?_)
  refine lv_iload_n C.1.1 C.1.2.1 dX1_fitsSort_14 rfl (lv_at hl 2 rfl) ?_
  by_cases c5_0 : x1 = 0
  · have h := h.1 c5_0
    refine y_tabIn C xt1 c5_0 dX1_fitsSort_15 (by decide) (by decide) (off := 25) (by decide +kernel) (tgt := 40) (by decide) ?_
    refine lv_iload C.1.1 C.1.2.1 dX1_fitsSort_40 (lv_at hl 0 rfl) ?_
    refine y_if_ne C t4 dX1_fitsSort_42 (tgt := 49) (by decide) (fun c6 => ?_) (fun c6 => ?_)
    · have h := h.1 c6
      refine y_iconst C dX1_fitsSort_49 ⟨by decide, by decide⟩ (fun v7 t7 => ?_)
      exact y_zret C hw hS t7 (Or.inl rfl) ⟨h, rfl⟩ dX1_fitsSort_50
    · have h := h.2 c6
      refine y_iconst C dX1_fitsSort_45 ⟨by decide, by decide⟩ (fun v8 t8 => ?_)
      refine lv_goto (tgt := 50) C.1.1 C.1.2.1 dX1_fitsSort_46 (by decide) ?_
      exact y_zret C hw hS t8 (Or.inr rfl) ⟨h, rfl⟩ dX1_fitsSort_50
  have h := h.2
  by_cases c5_1 : x1 = 1
  · have h := h.1 c5_1
    refine y_tabIn C xt1 c5_1 dX1_fitsSort_15 (by decide) (by decide) (off := 36) (by decide +kernel) (tgt := 51) (by decide) ?_
    refine lv_iload C.1.1 C.1.2.1 dX1_fitsSort_51 (lv_at hl 0 rfl) ?_
    obtain ⟨z, h⟩ := h
    exact y_zret C hw hS t4 z ⟨h, rfl⟩ dX1_fitsSort_53
  have h := h.2
  by_cases c5_2 : x1 = 2
  · have h := h.1 c5_2
    refine y_tabIn C xt1 c5_2 dX1_fitsSort_15 (by decide) (by decide) (off := 39) (by decide +kernel) (tgt := 54) (by decide) ?_
    refine lv_iload C.1.1 C.1.2.1 dX1_fitsSort_54 (lv_at hl 0 rfl) ?_
    refine y_if_eq C t4 dX1_fitsSort_56 (tgt := 75) (by decide) (fun c9 => ?_) (fun c9 => ?_)
    · have h := h.1 c9
      refine y_iconst C dX1_fitsSort_75 ⟨by decide, by decide⟩ (fun v10 t10 => ?_)
      refine lv_goto (tgt := 80) C.1.1 C.1.2.1 dX1_fitsSort_76 (by decide) ?_
      exact y_zret C hw hS t10 (Or.inr rfl) ⟨h, rfl⟩ dX1_fitsSort_80
    · have h := h.2 c9
      refine lv_aload_n C.1.1 C.1.2.1 dX1_fitsSort_59 rfl (lv_at hl 1 rfl) ?_
      obtain ⟨x_11, e11⟩ : ∃ z : Int, z = S 1037 0 := ⟨_, rfl⟩
      obtain ⟨o11, h⟩ := h x_11 e11
      refine y_getO C fl_X1_25 hw (ock_1 SB) rfl e11 o11 dX1_fitsSort_60 ?_
      refine y_getA C fl_X1_48 hw (oc_of SB o11) rfl (o := 1) rfl dX1_fitsSort_63 ?_
      refine lv_iload_n C.1.1 C.1.2.1 dX1_fitsSort_66 rfl (lv_at hl 3 rfl) ?_
      obtain ⟨b13, h⟩ := h
      obtain ⟨x_13, e13⟩ : ∃ z : Int, z = x_11 + 6 + 6 * x2 := ⟨_, rfl⟩
      have h := h x_13 e13
      have o13 : isO 6 x_13 := isO_ty o11 b13 e13
      refine y_tyO C hw o11 xt2 b13 e13 dX1_fitsSort_67 ?_
      refine lv_iload_n C.1.1 C.1.2.1 dX1_fitsSort_68 rfl (lv_at hl 4 rfl) ?_
      refine y_cVIp C (As := [.int xv3]) (rest := []) ml_X1_166 (kX6_hasRef l G SB S o13 xt3 h) (oc_of SB o13) (T := TX6) (N := 20) rfl (by decide) ⟨(Nat.le_of_ble_eq_true rfl), (Nat.le_of_ble_eq_true rfl)⟩ hl.1 rfl rfl (Nat.le_of_ble_eq_true rfl) hw hS dX1_fitsSort_69 (fun v14 x_14 H locs t14 h hw hS => ?_)
      refine y_if_eq C t14 dX1_fitsSort_72 (tgt := 79) (by decide) (fun c15 => ?_) (fun c15 => ?_)
      · have h := h.1 c15
        refine y_iconst C dX1_fitsSort_79 ⟨by decide, by decide⟩ (fun v16 t16 => ?_)
        exact y_zret C hw hS t16 (Or.inl rfl) ⟨h, rfl⟩ dX1_fitsSort_80
      · have h := h.2 c15
        refine y_iconst C dX1_fitsSort_75 ⟨by decide, by decide⟩ (fun v17 t17 => ?_)
        refine lv_goto (tgt := 80) C.1.1 C.1.2.1 dX1_fitsSort_76 (by decide) ?_
        exact y_zret C hw hS t17 (Or.inr rfl) ⟨h, rfl⟩ dX1_fitsSort_80
  have h := h.2
  have c5 := sw_0_2 c5_0 c5_1 c5_2
  have h := h c5
  refine y_tabOut C xt1 c5 dX1_fitsSort_15 (tgt := 81) (by decide) ?_
  refine y_iconst C dX1_fitsSort_81 ⟨by decide, by decide⟩ (fun v18 t18 => ?_)
  exact y_zret C hw hS t18 (Or.inr rfl) ⟨h, rfl⟩ dX1_fitsSort_82
theorem kX1_fitsSort (l : Launch) (G : GG) (SB S : St) {xv1 : Int32} {x1 : Int} (xt1 : xv1.toInt = x1) {xv2 : Int32} {x2 : Int} (xt2 : xv2.toInt = x2) {xv3 : Int32} {x3 : Int} (xt3 : xv3.toInt = x3) {k : Int → Prop} (h : wX1_fitsSort S x1 x2 x3 k) : CnI l yX1_fitsSort cX1_fitsSort 5 (some .boolean) 1 22 G (injC SB) [.ref (G.2.2 1037), .int xv1, .int xv2, .int xv3] S (fun r u => k r ∧ u = S) :=
  cn_body (by decide +kernel) (Nat.le_of_ble_eq_true rfl) (fun p e s m args below meth c ls C hw hl => uX1_fitsSort_0 C hw va_S.rf xt1 xt2 xt3 (lv_sub hl [0, 1, 2, 3] rfl) h)
set_option maxHeartbeats 4000000 in
set_option maxRecDepth 10000 in
theorem uX1_placeOfSearch_36 {p : Program} {l : Launch} {e : Env} {s : State} {m : MethodId} {args : Array Value} {below : List Frame} {meth : Method} {c : Code} {G : GG} {SB : St} (C : Cx p s m args meth c G RX1 cX1_placeOfSearch 6 (some .int)) {S : St} {H : Heap} {locs : List Loc} {ls : Array Slot}  {k : Int → Prop} (hw : Wd G ((injC SB) S) H) (hS : va_S (AG G) s.heap H locs) {xv1 : Int32} {x1 : Int} (xt1 : xv1.toInt = x1) {xv2 : Int32} {x2 : Int} (xt2 : xv2.toInt = x2) {xv3 : Int32} {x3 : Int} (xt3 : xv3.toInt = x3) {sv0 : Int32} {s0 : Int} (st0 : sv0.toInt = s0) (hl : lv_has ls 6 [(0, .ref (G.2.2 1037)), (1, .int xv1), (2, .int xv2), (3, .int xv3)])  (h : wX1_placeOfSearch_36 S x1 x2 x3 s0 k) : W p l e (rmF 1 21) s m args below meth c H locs 0 0 (MQ below (QcI G (injC SB) (fun r u => k r ∧ u = S)) args s 0 0 (AG G)) (F0 m 36 ls [.int sv0]) := by
  refine lv_istore (lv' := [(4, .int sv0), (0, .ref (G.2.2 1037)), (1, .int xv1), (2, .int xv2), (3, .int xv3)]) C.1.1 C.1.2.1 dX1_placeOfSearch_36 hl (by decide) rfl (fun ls hl => ?_)
  refine lv_aload_n C.1.1 C.1.2.1 dX1_placeOfSearch_38 rfl (lv_at hl 1 rfl) ?_
  obtain ⟨x_1, e1⟩ : ∃ z : Int, z = S 1037 0 := ⟨_, rfl⟩
  obtain ⟨o1, h⟩ := h x_1 e1
  refine y_getO C fl_X1_25 hw (ock_1 SB) rfl e1 o1 dX1_placeOfSearch_39 ?_
  refine y_getA C fl_X1_48 hw (oc_of SB o1) rfl (o := 1) rfl dX1_placeOfSearch_42 ?_
  refine lv_iload_n C.1.1 C.1.2.1 dX1_placeOfSearch_45 rfl (lv_at hl 3 rfl) ?_
  obtain ⟨b3, h⟩ := h
  obtain ⟨x_3, e3⟩ : ∃ z : Int, z = x_1 + 6 + 6 * x2 := ⟨_, rfl⟩
  have h := h x_3 e3
  have o3 : isO 6 x_3 := isO_ty o1 b3 e3
  refine y_tyO C hw o1 xt2 b3 e3 dX1_placeOfSearch_46 ?_
  refine y_getI C fl_X1_62 hw (oc_of SB o3) rfl dX1_placeOfSearch_47 (fun v4 t4 => ?_)
  obtain ⟨x_5, e5⟩ : ∃ z : Int, z = S x_3 11 := ⟨_, rfl⟩
  have h := h x_5 e5
  have t5 := t4.trans e5.symm
  refine lv_istore (lv' := [(5, .int v4), (4, .int sv0), (0, .ref (G.2.2 1037)), (1, .int xv1), (2, .int xv2), (3, .int xv3)]) C.1.1 C.1.2.1 dX1_placeOfSearch_50 hl (by decide) rfl (fun ls hl => ?_)
  refine lv_iload_n C.1.1 C.1.2.1 dX1_placeOfSearch_52 rfl (lv_at hl 3 rfl) ?_
  refine y_iconst C dX1_placeOfSearch_53 ⟨by decide, by decide⟩ (fun v6 t6 => ?_)
  refine y_icmp_ne C xt1 t6 dX1_placeOfSearch_54 (tgt := 73) (by decide) (fun c7 => ?_) (fun c7 => ?_)
  · have h := h.1 c7
    refine lv_iload_n C.1.1 C.1.2.1 dX1_placeOfSearch_73 rfl (lv_at hl 5 rfl) ?_
    exact y_iret C hw hS xt3 ⟨h, rfl⟩ dX1_placeOfSearch_74
  · have h := h.2 c7
    refine lv_iload C.1.1 C.1.2.1 dX1_placeOfSearch_57 (lv_at hl 1 rfl) ?_
    refine y_if_eq C st0 dX1_placeOfSearch_59 (tgt := 73) (by decide) (fun c8 => ?_) (fun c8 => ?_)
    · have h := h.1 c8
      refine lv_iload_n C.1.1 C.1.2.1 dX1_placeOfSearch_73 rfl (lv_at hl 5 rfl) ?_
      exact y_iret C hw hS xt3 ⟨h, rfl⟩ dX1_placeOfSearch_74
    · have h := h.2 c8
      refine lv_iload C.1.1 C.1.2.1 dX1_placeOfSearch_62 (lv_at hl 0 rfl) ?_
      refine y_iconst C dX1_placeOfSearch_64 ⟨by decide, by decide⟩ (fun v9 t9 => ?_)
      refine y_icmp_eq C t5 t9 dX1_placeOfSearch_65 (tgt := 73) (by decide) (fun c10 => ?_) (fun c10 => ?_)
      · have h := h.1 c10
        refine lv_iload_n C.1.1 C.1.2.1 dX1_placeOfSearch_73 rfl (lv_at hl 5 rfl) ?_
        exact y_iret C hw hS xt3 ⟨h, rfl⟩ dX1_placeOfSearch_74
      · have h := h.2 c10
        refine lv_iload C.1.1 C.1.2.1 dX1_placeOfSearch_68 (lv_at hl 0 rfl) ?_
        refine lv_goto (tgt := 74) C.1.1 C.1.2.1 dX1_placeOfSearch_70 (by decide) ?_
        exact y_iret C hw hS t5 ⟨h, rfl⟩ dX1_placeOfSearch_74
set_option maxHeartbeats 4000000 in
set_option maxRecDepth 10000 in
theorem uX1_placeOfSearch_35 {p : Program} {l : Launch} {e : Env} {s : State} {m : MethodId} {args : Array Value} {below : List Frame} {meth : Method} {c : Code} {G : GG} {SB : St} (C : Cx p s m args meth c G RX1 cX1_placeOfSearch 6 (some .int)) {S : St} {H : Heap} {locs : List Loc} {ls : Array Slot}  {k : Int → Prop} (hw : Wd G ((injC SB) S) H) (hS : va_S (AG G) s.heap H locs) {xv1 : Int32} {x1 : Int} (xt1 : xv1.toInt = x1) {xv2 : Int32} {x2 : Int} (xt2 : xv2.toInt = x2) {xv3 : Int32} {x3 : Int} (xt3 : xv3.toInt = x3) (hl : lv_has ls 6 [(0, .ref (G.2.2 1037)), (1, .int xv1), (2, .int xv2), (3, .int xv3)])  (h : wX1_placeOfSearch_35 S x1 x2 x3 k) : W p l e (rmF 1 21) s m args below meth c H locs 0 0 (MQ below (QcI G (injC SB) (fun r u => k r ∧ u = S)) args s 0 0 (AG G)) (F0 m 35 ls []) := by
  refine y_iconst C dX1_placeOfSearch_35 ⟨by decide, by decide⟩ (fun v1 t1 => ?_)
  exact uX1_placeOfSearch_36 C hw hS xt1 xt2 xt3 t1 (lv_sub hl [0, 1, 2, 3] rfl)  h
set_option maxHeartbeats 4000000 in
set_option maxRecDepth 10000 in
theorem uX1_placeOfSearch_0 {p : Program} {l : Launch} {e : Env} {s : State} {m : MethodId} {args : Array Value} {below : List Frame} {meth : Method} {c : Code} {G : GG} {SB : St} (C : Cx p s m args meth c G RX1 cX1_placeOfSearch 6 (some .int)) {S : St} {H : Heap} {locs : List Loc} {ls : Array Slot}  {k : Int → Prop} (hw : Wd G ((injC SB) S) H) (hS : va_S (AG G) s.heap H locs) {xv1 : Int32} {x1 : Int} (xt1 : xv1.toInt = x1) {xv2 : Int32} {x2 : Int} (xt2 : xv2.toInt = x2) {xv3 : Int32} {x3 : Int} (xt3 : xv3.toInt = x3) (hl : lv_has ls 6 [(0, .ref (G.2.2 1037)), (1, .int xv1), (2, .int xv2), (3, .int xv3)])  (h : wX1_placeOfSearch_0 S x1 x2 x3 k) : W p l e (rmF 1 21) s m args below meth c H locs 0 0 (MQ below (QcI G (injC SB) (fun r u => k r ∧ u = S)) args s 0 0 (AG G)) (F0 m 0 ls []) := by
  refine lv_aload_n C.1.1 C.1.2.1 dX1_placeOfSearch_0 rfl (lv_at hl 0 rfl) ?_
  obtain ⟨x_1, e1⟩ : ∃ z : Int, z = S 1037 0 := ⟨_, rfl⟩
  obtain ⟨o1, h⟩ := h x_1 e1
  refine y_getO C fl_X1_25 hw (ock_1 SB) rfl e1 o1 dX1_placeOfSearch_1 ?_
  refine y_getA C fl_X1_48 hw (oc_of SB o1) rfl (o := 1) rfl dX1_placeOfSearch_4 ?_
  refine lv_iload_n C.1.1 C.1.2.1 dX1_placeOfSearch_7 rfl (lv_at hl 2 rfl) ?_
  obtain ⟨b3, h⟩ := h
  obtain ⟨x_3, e3⟩ : ∃ z : Int, z = x_1 + 6 + 6 * x2 := ⟨_, rfl⟩
  have h := h x_3 e3
  have o3 : isO 6 x_3 := isO_ty o1 b3 e3
  refine y_tyO C hw o1 xt2 b3 e3 dX1_placeOfSearch_8 ?_
  refine lv_iload_n C.1.1 C.1.2.1 dX1_placeOfSearch_9 rfl (lv_at hl 3 rfl) ?_
  refine y_cVIp C (As := [.int xv3]) (rest := []) ml_X1_169 (kX6_isBelow l G SB S o3 xt3 h) (oc_of SB o3) (T := TX6) (N := 20) rfl (by decide) ⟨(Nat.le_of_ble_eq_true rfl), (Nat.le_of_ble_eq_true rfl)⟩ hl.1 rfl rfl (Nat.le_of_ble_eq_true rfl) hw hS dX1_placeOfSearch_10 (fun v4 x_4 H locs t4 h hw hS => ?_)
  refine y_if_eq C t4 dX1_placeOfSearch_13 (tgt := 35) (by decide) (fun c5 => ?_) (fun c5 => ?_)
  · have h := h.1 c5
    exact uX1_placeOfSearch_35 C hw hS xt1 xt2 xt3 (lv_sub hl [0, 1, 2, 3] rfl)  h
  · have h := h.2 c5
    refine lv_aload_n C.1.1 C.1.2.1 dX1_placeOfSearch_16 rfl (lv_at hl 0 rfl) ?_
    obtain ⟨x_6, e6⟩ : ∃ z : Int, z = S 1037 0 := ⟨_, rfl⟩
    obtain ⟨o6, h⟩ := h x_6 e6
    refine y_getO C fl_X1_25 hw (ock_1 SB) rfl e6 o6 dX1_placeOfSearch_17 ?_
    refine y_getA C fl_X1_48 hw (oc_of SB o6) rfl (o := 1) rfl dX1_placeOfSearch_20 ?_
    refine lv_iload_n C.1.1 C.1.2.1 dX1_placeOfSearch_23 rfl (lv_at hl 3 rfl) ?_
    obtain ⟨b8, h⟩ := h
    obtain ⟨x_8, e8⟩ : ∃ z : Int, z = x_6 + 6 + 6 * x3 := ⟨_, rfl⟩
    have h := h x_8 e8
    have o8 : isO 6 x_8 := isO_ty o6 b8 e8
    refine y_tyO C hw o6 xt3 b8 e8 dX1_placeOfSearch_24 ?_
    refine y_cVIp C (As := []) (rest := []) ml_X1_52 (kX6_isFace l G SB S o8 h) (oc_of SB o8) (T := TX6) (N := 20) rfl (by decide) ⟨(Nat.le_of_ble_eq_true rfl), (Nat.le_of_ble_eq_true rfl)⟩ hl.1 rfl rfl (Nat.le_of_ble_eq_true rfl) hw hS dX1_placeOfSearch_25 (fun v9 x_9 H locs t9 h hw hS => ?_)
    refine y_if_ne C t9 dX1_placeOfSearch_28 (tgt := 35) (by decide) (fun c10 => ?_) (fun c10 => ?_)
    · have h := h.1 c10
      exact uX1_placeOfSearch_35 C hw hS xt1 xt2 xt3 (lv_sub hl [0, 1, 2, 3] rfl)  h
    · have h := h.2 c10
      refine y_iconst C dX1_placeOfSearch_31 ⟨by decide, by decide⟩ (fun v11 t11 => ?_)
      refine lv_goto (tgt := 36) C.1.1 C.1.2.1 dX1_placeOfSearch_32 (by decide) ?_
      exact uX1_placeOfSearch_36 C hw hS xt1 xt2 xt3 t11 (lv_sub hl [0, 1, 2, 3] rfl)  h
theorem kX1_placeOfSearch (l : Launch) (G : GG) (SB S : St) {xv1 : Int32} {x1 : Int} (xt1 : xv1.toInt = x1) {xv2 : Int32} {x2 : Int} (xt2 : xv2.toInt = x2) {xv3 : Int32} {x3 : Int} (xt3 : xv3.toInt = x3) {k : Int → Prop} (h : wX1_placeOfSearch S x1 x2 x3 k) : CnI l yX1_placeOfSearch cX1_placeOfSearch 6 (some .int) 1 21 G (injC SB) [.ref (G.2.2 1037), .int xv1, .int xv2, .int xv3] S (fun r u => k r ∧ u = S) :=
  cn_body (by decide +kernel) (Nat.le_of_ble_eq_true rfl) (fun p e s m args below meth c ls C hw hl => uX1_placeOfSearch_0 C hw va_S.rf xt1 xt2 xt3 (lv_sub hl [0, 1, 2, 3] rfl) h)
set_option maxHeartbeats 4000000 in
set_option maxRecDepth 10000 in
theorem uX1_fitsReceiver_0 {p : Program} {l : Launch} {e : Env} {s : State} {m : MethodId} {args : Array Value} {below : List Frame} {meth : Method} {c : Code} {G : GG} {SB : St} (C : Cx p s m args meth c G RX1 cX1_fitsReceiver 5 (some .boolean)) {S : St} {H : Heap} {locs : List Loc} {ls : Array Slot}  {k : Int → Prop} (hw : Wd G ((injC SB) S) H) (hS : va_S (AG G) s.heap H locs) {xv1 : Int32} {x1 : Int} (xt1 : xv1.toInt = x1) {xv2 : Int32} {x2 : Int} (xt2 : xv2.toInt = x2) {xv3 : Int32} {x3 : Int} (xt3 : xv3.toInt = x3) {xv4 : Int32} {x4 : Int} (xt4 : xv4.toInt = x4) (hl : lv_has ls 5 [(0, .ref (G.2.2 1037)), (1, .int xv1), (2, .int xv2), (3, .int xv3), (4, .int xv4)])  (h : wX1_fitsReceiver_0 S x1 x2 x3 x4 k) : W p l e (rmF 1 22) s m args below meth c H locs 0 0 (MQ below (QcI G (injC SB) (fun r u => k r ∧ u = S)) args s 0 0 (AG G)) (F0 m 0 ls []) := by
  refine lv_aload_n C.1.1 C.1.2.1 dX1_fitsReceiver_0 rfl (lv_at hl 0 rfl) ?_
  obtain ⟨x_1, e1⟩ : ∃ z : Int, z = S 1037 0 := ⟨_, rfl⟩
  obtain ⟨o1, h⟩ := h x_1 e1
  refine y_getO C fl_X1_25 hw (ock_1 SB) rfl e1 o1 dX1_fitsReceiver_1 ?_
  refine y_getA C fl_X1_48 hw (oc_of SB o1) rfl (o := 1) rfl dX1_fitsReceiver_4 ?_
  refine lv_iload C.1.1 C.1.2.1 dX1_fitsReceiver_7 (lv_at hl 4 rfl) ?_
  obtain ⟨b3, h⟩ := h
  obtain ⟨x_3, e3⟩ : ∃ z : Int, z = x_1 + 6 + 6 * x4 := ⟨_, rfl⟩
  have h := h x_3 e3
  have o3 : isO 6 x_3 := isO_ty o1 b3 e3
  refine y_tyO C hw o1 xt4 b3 e3 dX1_fitsReceiver_9 ?_
  refine y_getI C fl_X1_172 hw (oc_of SB o3) rfl dX1_fitsReceiver_10 (fun v4 t4 => ?_)
  refine y_if_eq C t4 dX1_fitsReceiver_13 (tgt := 18) (by decide) (fun c5 => ?_) (fun c5 => ?_)
  · have h := h.1 c5
    refine lv_iload_n C.1.1 C.1.2.1 dX1_fitsReceiver_18 rfl (lv_at hl 1 rfl) ?_
    refine y_iconst C dX1_fitsReceiver_19 ⟨by decide, by decide⟩ (fun v6 t6 => ?_)
    refine y_icmp_eq C xt1 t6 dX1_fitsReceiver_20 (tgt := 34) (by decide) (fun c7 => ?_) (fun c7 => ?_)
    · have h := h.1 c7
      refine lv_aload_n C.1.1 C.1.2.1 dX1_fitsReceiver_34 rfl (lv_at hl 0 rfl) ?_
      obtain ⟨x_8, e8⟩ : ∃ z : Int, z = S 1037 0 := ⟨_, rfl⟩
      obtain ⟨o8, h⟩ := h x_8 e8
      refine y_getO C fl_X1_25 hw (ock_1 SB) rfl e8 o8 dX1_fitsReceiver_35 ?_
      refine lv_iload C.1.1 C.1.2.1 dX1_fitsReceiver_38 (lv_at hl 4 rfl) ?_
      refine lv_iload_n C.1.1 C.1.2.1 dX1_fitsReceiver_40 rfl (lv_at hl 2 rfl) ?_
      refine y_cVIp C (As := [.int xv4, .int xv2]) (rest := []) ml_X1_88 (kX2_isUnder l G SB S o8 xt4 xt2 h) (oc_of SB o8) (T := TX2) (N := 9) rfl (by decide) ⟨(Nat.le_of_ble_eq_true rfl), (Nat.le_of_ble_eq_true rfl)⟩ hl.1 rfl rfl (Nat.le_of_ble_eq_true rfl) hw hS dX1_fitsReceiver_41 (fun v9 x_9 H locs t9 h hw hS => ?_)
      refine y_if_eq C t9 dX1_fitsReceiver_44 (tgt := 67) (by decide) (fun c10 => ?_) (fun c10 => ?_)
      · have h := h.1 c10
        refine y_iconst C dX1_fitsReceiver_67 ⟨by decide, by decide⟩ (fun v11 t11 => ?_)
        exact y_zret C hw hS t11 (Or.inl rfl) ⟨h, rfl⟩ dX1_fitsReceiver_68
      · have h := h.2 c10
        refine lv_aload_n C.1.1 C.1.2.1 dX1_fitsReceiver_47 rfl (lv_at hl 0 rfl) ?_
        obtain ⟨x_12, e12⟩ : ∃ z : Int, z = S 1037 0 := ⟨_, rfl⟩
        obtain ⟨o12, h⟩ := h x_12 e12
        refine y_getO C fl_X1_25 hw (ock_1 SB) rfl e12 o12 dX1_fitsReceiver_48 ?_
        refine y_getA C fl_X1_48 hw (oc_of SB o12) rfl (o := 1) rfl dX1_fitsReceiver_51 ?_
        refine lv_iload_n C.1.1 C.1.2.1 dX1_fitsReceiver_54 rfl (lv_at hl 2 rfl) ?_
        obtain ⟨b14, h⟩ := h
        obtain ⟨x_14, e14⟩ : ∃ z : Int, z = x_12 + 6 + 6 * x2 := ⟨_, rfl⟩
        have h := h x_14 e14
        have o14 : isO 6 x_14 := isO_ty o12 b14 e14
        refine y_tyO C hw o12 xt2 b14 e14 dX1_fitsReceiver_55 ?_
        refine lv_iload_n C.1.1 C.1.2.1 dX1_fitsReceiver_56 rfl (lv_at hl 3 rfl) ?_
        refine y_cVIp C (As := [.int xv3]) (rest := []) ml_X1_169 (kX6_isBelow l G SB S o14 xt3 h) (oc_of SB o14) (T := TX6) (N := 20) rfl (by decide) ⟨(Nat.le_of_ble_eq_true rfl), (Nat.le_of_ble_eq_true rfl)⟩ hl.1 rfl rfl (Nat.le_of_ble_eq_true rfl) hw hS dX1_fitsReceiver_57 (fun v15 x_15 H locs t15 h hw hS => ?_)
        refine y_if_eq C t15 dX1_fitsReceiver_60 (tgt := 67) (by decide) (fun c16 => ?_) (fun c16 => ?_)
        · have h := h.1 c16
          refine y_iconst C dX1_fitsReceiver_67 ⟨by decide, by decide⟩ (fun v17 t17 => ?_)
          exact y_zret C hw hS t17 (Or.inl rfl) ⟨h, rfl⟩ dX1_fitsReceiver_68
        · have h := h.2 c16
          refine y_iconst C dX1_fitsReceiver_63 ⟨by decide, by decide⟩ (fun v18 t18 => ?_)
          refine lv_goto (tgt := 68) C.1.1 C.1.2.1 dX1_fitsReceiver_64 (by decide) ?_
          exact y_zret C hw hS t18 (Or.inr rfl) ⟨h, rfl⟩ dX1_fitsReceiver_68
    · have h := h.2 c7
      refine lv_aload_n C.1.1 C.1.2.1 dX1_fitsReceiver_23 rfl (lv_at hl 0 rfl) ?_
      obtain ⟨x_19, e19⟩ : ∃ z : Int, z = S 1037 0 := ⟨_, rfl⟩
      obtain ⟨o19, h⟩ := h x_19 e19
      refine y_getO C fl_X1_25 hw (ock_1 SB) rfl e19 o19 dX1_fitsReceiver_24 ?_
      refine lv_iload C.1.1 C.1.2.1 dX1_fitsReceiver_27 (lv_at hl 4 rfl) ?_
      refine lv_iload_n C.1.1 C.1.2.1 dX1_fitsReceiver_29 rfl (lv_at hl 3 rfl) ?_
      refine y_cVIp C (As := [.int xv4, .int xv3]) (rest := []) ml_X1_88 (kX2_isUnder l G SB S o19 xt4 xt3 h) (oc_of SB o19) (T := TX2) (N := 9) rfl (by decide) ⟨(Nat.le_of_ble_eq_true rfl), (Nat.le_of_ble_eq_true rfl)⟩ hl.1 rfl rfl (Nat.le_of_ble_eq_true rfl) hw hS dX1_fitsReceiver_30 (fun v20 x_20 H locs t20 h hw hS => ?_)
      obtain ⟨z, h⟩ := h
      exact y_zret C hw hS t20 z ⟨h, rfl⟩ dX1_fitsReceiver_33
  · have h := h.2 c5
    refine y_iconst C dX1_fitsReceiver_16 ⟨by decide, by decide⟩ (fun v21 t21 => ?_)
    exact y_zret C hw hS t21 (Or.inl rfl) ⟨h, rfl⟩ dX1_fitsReceiver_17
theorem kX1_fitsReceiver (l : Launch) (G : GG) (SB S : St) {xv1 : Int32} {x1 : Int} (xt1 : xv1.toInt = x1) {xv2 : Int32} {x2 : Int} (xt2 : xv2.toInt = x2) {xv3 : Int32} {x3 : Int} (xt3 : xv3.toInt = x3) {xv4 : Int32} {x4 : Int} (xt4 : xv4.toInt = x4) {k : Int → Prop} (h : wX1_fitsReceiver S x1 x2 x3 x4 k) : CnI l yX1_fitsReceiver cX1_fitsReceiver 5 (some .boolean) 1 22 G (injC SB) [.ref (G.2.2 1037), .int xv1, .int xv2, .int xv3, .int xv4] S (fun r u => k r ∧ u = S) :=
  cn_body (by decide +kernel) (Nat.le_of_ble_eq_true rfl) (fun p e s m args below meth c ls C hw hl => uX1_fitsReceiver_0 C hw va_S.rf xt1 xt2 xt3 xt4 (lv_sub hl [0, 1, 2, 3, 4] rfl) h)
set_option maxHeartbeats 4000000 in
set_option maxRecDepth 10000 in
theorem uX1_runThroughBridges_49 {p : Program} {l : Launch} {e : Env} {s : State} {m : MethodId} {args : Array Value} {below : List Frame} {meth : Method} {c : Code} {G : GG} {SB : St} (C : Cx p s m args meth c G RX1 cX1_runThroughBridges 5 (some .int)) {S : St} {H : Heap} {locs : List Loc} {ls : Array Slot}  {k : Int → St → Prop} (hw : Wd G ((injC SB) S) H) (hS : va_S (AG G) s.heap H locs) {xv3 : Int32} {x3 : Int} (xt3 : xv3.toInt = x3) (hl : lv_has ls 5 [(3, .int xv3)])  (h : wX1_runThroughBridges_49 S x3 k) : W p l e (rmF 4 92) s m args below meth c H locs 0 0 (MQ below (QcI G (injC SB) k) args s 0 0 (AG G)) (F0 m 49 ls []) := by
  refine lv_iload_n C.1.1 C.1.2.1 dX1_runThroughBridges_49 rfl (lv_at hl 0 rfl) ?_
  refine y_sipush C dX1_runThroughBridges_50 ⟨by decide, by decide⟩ (fun v1 t1 => ?_)
  refine y_icmp_lt C xt3 t1 dX1_runThroughBridges_53 (tgt := 61) (by decide) (fun c2 => ?_) (fun c2 => ?_)
  · have h := h.1 c2
    refine lv_iload_n C.1.1 C.1.2.1 dX1_runThroughBridges_61 rfl (lv_at hl 0 rfl) ?_
    exact y_iret C hw hS xt3 h dX1_runThroughBridges_62
  · have h := h.2 c2
    refine y_bipush C dX1_runThroughBridges_56 ⟨by decide, by decide⟩ (fun v3 t3 => ?_)
    refine lv_goto (tgt := 62) C.1.1 C.1.2.1 dX1_runThroughBridges_58 (by decide) ?_
    exact y_iret C hw hS t3 h dX1_runThroughBridges_62
set_option maxHeartbeats 4000000 in
set_option maxRecDepth 10000 in
theorem uX1_runThroughBridges_5_b {p : Program} {l : Launch} {e : Env} {s : State} {m : MethodId} {args : Array Value} {below : List Frame} {meth : Method} {c : Code} {G : GG} {SB : St} (C : Cx p s m args meth c G RX1 cX1_runThroughBridges 5 (some .int)) {S : St} {H : Heap} {locs : List Loc} {ls : Array Slot}  {P5 : Int → Int → St → Prop} {k : Int → St → Prop} (hw : Wd G ((injC SB) S) H) (hS : va_S (AG G) s.heap H locs) {xv2 : Int32} {x2 : Int} (xt2 : xv2.toInt = x2) {xv3 : Int32} {x3 : Int} (xt3 : xv3.toInt = x3) {xv4 : Int32} {x4 : Int} (xt4 : xv4.toInt = x4) (hl : lv_has ls 5 [(0, .ref (G.2.2 1037)), (2, .int xv2), (3, .int xv3), (4, .int xv4)])  (hP5 : ∀ {H : Heap} {locs : List Loc} {ls : Array Slot} {Sy : St} {yv3 : Int32} {y3 : Int} {yv4 : Int32} {y4 : Int}, yv3.toInt = y3 → yv4.toInt = y4 → Wd G ((injC SB) Sy) H → va_S (AG G) s.heap H locs → lv_has ls 5 [(0, .ref (G.2.2 1037)), (2, .int xv2), (3, .int yv3), (4, .int yv4)] → P5 y3 y4 Sy → W p l e (rmF 4 92) s m args below meth c H locs 0 0 (MQ below (QcI G (injC SB) k) args s 0 0 (AG G)) (F0 m 5 ls [])) (h : wX1_runThroughBridges_5_b S x2 x3 x4 P5 k) : W p l e (rmF 4 92) s m args below meth c H locs 0 0 (MQ below (QcI G (injC SB) k) args s 0 0 (AG G)) (F0 m 5 ls []) := by
  refine lv_iload C.1.1 C.1.2.1 dX1_runThroughBridges_5 (lv_at hl 3 rfl) ?_
  refine y_bipush C dX1_runThroughBridges_7 ⟨by decide, by decide⟩ (fun v1 t1 => ?_)
  refine y_icmp_ge C xt4 t1 dX1_runThroughBridges_9 (tgt := 49) (by decide) (fun c2 => ?_) (fun c2 => ?_)
  · have h := h.1 c2
    exact uX1_runThroughBridges_49 C hw hS xt3 (lv_sub hl [2] rfl)  h
  · have h := h.2 c2
    refine lv_iload_n C.1.1 C.1.2.1 dX1_runThroughBridges_12 rfl (lv_at hl 2 rfl) ?_
    refine y_sipush C dX1_runThroughBridges_13 ⟨by decide, by decide⟩ (fun v3 t3 => ?_)
    refine y_icmp_lt C xt3 t3 dX1_runThroughBridges_16 (tgt := 49) (by decide) (fun c4 => ?_) (fun c4 => ?_)
    · have h := h.1 c4
      exact uX1_runThroughBridges_49 C hw hS xt3 (lv_sub hl [2] rfl)  h
    · have h := h.2 c4
      refine lv_aload_n C.1.1 C.1.2.1 dX1_runThroughBridges_19 rfl (lv_at hl 0 rfl) ?_
      refine lv_dup C.1.1 C.1.2.1 dX1_runThroughBridges_20 rfl ?_
      refine y_getI C fl_X1_135 hw (ock_1 SB) rfl dX1_runThroughBridges_21 (fun v5 t5 => ?_)
      refine y_iconst C dX1_runThroughBridges_24 ⟨by decide, by decide⟩ (fun v6 t6 => ?_)
      refine y_iadd C t5 t6 dX1_runThroughBridges_25 (fun v7 t7 => ?_)
      obtain ⟨S_8, e8⟩ : ∃ z : St, z = up S 1037 7 (w32 (S 1037 7 + 1)) := ⟨_, rfl⟩
      have h := h S_8 e8
      refine y_putI C fl_X1_135 fp_1_7 hw hS (ock_1 SB) rfl t7 dX1_runThroughBridges_26 (fun H locs hw hS => ?_)
      have hw : Wd G ((injC SB) S_8) H := by rw [e8]; exact hw
      refine lv_aload_n C.1.1 C.1.2.1 dX1_runThroughBridges_29 rfl (lv_at hl 0 rfl) ?_
      refine lv_aload_n C.1.1 C.1.2.1 dX1_runThroughBridges_30 rfl (lv_at hl 0 rfl) ?_
      obtain ⟨x_9, e9⟩ : ∃ z : Int, z = S_8 1037 0 := ⟨_, rfl⟩
      obtain ⟨o9, h⟩ := h x_9 e9
      refine y_getO C fl_X1_25 hw (ock_1 SB) rfl e9 o9 dX1_runThroughBridges_31 ?_
      refine lv_iload_n C.1.1 C.1.2.1 dX1_runThroughBridges_34 rfl (lv_at hl 2 rfl) ?_
      refine y_cVIp C (As := [.int xv3]) (rest := [.ref (G.2.2 1037)]) ml_X1_175 (kX2_behind l G SB S_8 o9 xt3 h) (oc_of SB o9) (T := TX2) (N := 9) rfl (by decide) ⟨(Nat.le_of_ble_eq_true rfl), (Nat.le_of_ble_eq_true rfl)⟩ hl.1 rfl rfl (Nat.le_of_ble_eq_true rfl) hw hS dX1_runThroughBridges_35 (fun v10 x_10 H locs t10 h hw hS => ?_)
      refine lv_iload_n C.1.1 C.1.2.1 dX1_runThroughBridges_38 rfl (lv_at hl 1 rfl) ?_
      refine y_cVI C (As := [.int v10, .int xv2]) (rest := []) ml_X1_163 (kX1_select l G SB S_8 t10 xt2 h) (ock_1 SB) (T := TX1) (N := 8) rfl (by decide) ⟨(Nat.le_of_ble_eq_true rfl), (Nat.le_of_ble_eq_true rfl)⟩ hl.1 rfl rfl (Nat.le_of_ble_eq_true rfl) hw hS dX1_runThroughBridges_39 (fun v11 x_11 S_11 H locs t11 h hw hS => ?_)
      refine lv_istore_n (lv' := [(3, .int v11), (0, .ref (G.2.2 1037)), (2, .int xv2), (4, .int xv4)]) C.1.1 C.1.2.1 dX1_runThroughBridges_42 rfl hl (by decide) rfl (fun ls hl => ?_)
      obtain ⟨x_12, e12⟩ : ∃ z : Int, z = w32 (x4 + 1) := ⟨_, rfl⟩
      have h := h x_12 e12
      obtain ⟨v12, t12, g12⟩ : ∃ z : Int32, z.toInt = x_12 ∧ xv4 + Int32.ofInt 1 = z := ⟨_, (ti_inc xt4 ⟨by decide, by decide⟩).trans e12.symm, rfl⟩
      refine lv_iinc (v := v12) (lv' := [(4, .int v12), (3, .int v11), (0, .ref (G.2.2 1037)), (2, .int xv2)]) C.1.1 C.1.2.1 dX1_runThroughBridges_43 hl (k := 3) rfl g12 (by decide) rfl (fun ls hl => ?_)
      refine lv_goto (tgt := 5) C.1.1 C.1.2.1 dX1_runThroughBridges_46 (by decide) ?_
      exact hP5 t11 t12 hw hS (lv_sub hl [2, 3, 1, 0] rfl) h
set_option maxHeartbeats 4000000 in
set_option maxRecDepth 10000 in
theorem uX1_runThroughBridges_5 {p : Program} {l : Launch} {e : Env} {s : State} {m : MethodId} {args : Array Value} {below : List Frame} {meth : Method} {c : Code} {G : GG} {SB : St} (C : Cx p s m args meth c G RX1 cX1_runThroughBridges 5 (some .int)) {S : St} {H : Heap} {locs : List Loc} {ls : Array Slot}  {k : Int → St → Prop} (hw : Wd G ((injC SB) S) H) (hS : va_S (AG G) s.heap H locs) {xv2 : Int32} {x2 : Int} (xt2 : xv2.toInt = x2) {xv3 : Int32} {x3 : Int} (xt3 : xv3.toInt = x3) {xv4 : Int32} {x4 : Int} (xt4 : xv4.toInt = x4) (hl : lv_has ls 5 [(0, .ref (G.2.2 1037)), (2, .int xv2), (3, .int xv3), (4, .int xv4)])  (h : wX1_runThroughBridges_5 S x2 x3 x4 k) : W p l e (rmF 4 92) s m args below meth c H locs 0 0 (MQ below (QcI G (injC SB) k) args s 0 0 (AG G)) (F0 m 5 ls []) := by
  have key : ∀ (n : Nat) {H : Heap} {locs : List Loc} {ls : Array Slot} {S : St} {xv3 : Int32} {x3 : Int} {xv4 : Int32} {x4 : Int}, xv3.toInt = x3 → xv4.toInt = x4 → Wd G ((injC SB) S) H → va_S (AG G) s.heap H locs → lv_has ls 5 [(0, .ref (G.2.2 1037)), (2, .int xv2), (3, .int xv3), (4, .int xv4)] → itP (fun (P : Int × Int × St → Prop) (a : Int × Int × St) => wX1_runThroughBridges_5_b a.2.2 x2 a.1 a.2.1 (fun b0 b1 b2 => P (b0, b1, b2)) k) n (x3, x4, S) → W p l e (rmF 4 92) s m args below meth c H locs 0 0 (MQ below (QcI G (injC SB) k) args s 0 0 (AG G)) (F0 m 5 ls []) := by
    intro n
    induction n with
    | zero => intro H locs ls S xv3 x3 xv4 x4 xt3 xt4 hw hS hl h; exact h.elim
    | succ n ih =>
      intro H locs ls S xv3 x3 xv4 x4 xt3 xt4 hw hS hl h
      exact uX1_runThroughBridges_5_b C hw hS xt2 xt3 xt4 hl  (P5 := fun b0 b1 b2 => itP _ n (b0, b1, b2)) (fun q0 q1 hw hS hl h => ih q0 q1 hw hS hl h) h
  obtain ⟨n, hn⟩ := h
  exact key n xt3 xt4 hw hS hl hn
set_option maxHeartbeats 4000000 in
set_option maxRecDepth 10000 in
theorem uX1_runThroughBridges_0 {p : Program} {l : Launch} {e : Env} {s : State} {m : MethodId} {args : Array Value} {below : List Frame} {meth : Method} {c : Code} {G : GG} {SB : St} (C : Cx p s m args meth c G RX1 cX1_runThroughBridges 5 (some .int)) {S : St} {H : Heap} {locs : List Loc} {ls : Array Slot}  {k : Int → St → Prop} (hw : Wd G ((injC SB) S) H) (hS : va_S (AG G) s.heap H locs) {xv1 : Int32} {x1 : Int} (xt1 : xv1.toInt = x1) {xv2 : Int32} {x2 : Int} (xt2 : xv2.toInt = x2) (hl : lv_has ls 5 [(0, .ref (G.2.2 1037)), (1, .int xv1), (2, .int xv2)])  (h : wX1_runThroughBridges_0 S x1 x2 k) : W p l e (rmF 4 92) s m args below meth c H locs 0 0 (MQ below (QcI G (injC SB) k) args s 0 0 (AG G)) (F0 m 0 ls []) := by
  refine lv_iload_n C.1.1 C.1.2.1 dX1_runThroughBridges_0 rfl (lv_at hl 1 rfl) ?_
  refine lv_istore_n (lv' := [(3, .int xv1), (0, .ref (G.2.2 1037)), (1, .int xv1), (2, .int xv2)]) C.1.1 C.1.2.1 dX1_runThroughBridges_1 rfl hl (by decide) rfl (fun ls hl => ?_)
  refine y_iconst C dX1_runThroughBridges_2 ⟨by decide, by decide⟩ (fun v1 t1 => ?_)
  refine lv_istore (lv' := [(4, .int v1), (3, .int xv1), (0, .ref (G.2.2 1037)), (1, .int xv1), (2, .int xv2)]) C.1.1 C.1.2.1 dX1_runThroughBridges_3 hl (by decide) rfl (fun ls hl => ?_)
  exact uX1_runThroughBridges_5 C hw hS xt2 xt1 t1 (lv_sub hl [2, 4, 1, 0] rfl)  h
theorem kX1_runThroughBridges (l : Launch) (G : GG) (SB S : St) {xv1 : Int32} {x1 : Int} (xt1 : xv1.toInt = x1) {xv2 : Int32} {x2 : Int} (xt2 : xv2.toInt = x2) {k : Int → St → Prop} (h : wX1_runThroughBridges S x1 x2 k) : CnI l yX1_runThroughBridges cX1_runThroughBridges 5 (some .int) 4 92 G (injC SB) [.ref (G.2.2 1037), .int xv1, .int xv2] S k :=
  cn_body (by decide +kernel) (Nat.le_of_ble_eq_true rfl) (fun p e s m args below meth c ls C hw hl => uX1_runThroughBridges_0 C hw va_S.rf xt1 xt2 (lv_sub hl [0, 1, 2] rfl) h)
set_option maxHeartbeats 4000000 in
set_option maxRecDepth 10000 in
theorem uX1_judge_96 {p : Program} {l : Launch} {e : Env} {s : State} {m : MethodId} {args : Array Value} {below : List Frame} {meth : Method} {c : Code} {G : GG} {SB : St} (C : Cx p s m args meth c G RX1 cX1_judge 7 (some .int)) {S : St} {H : Heap} {locs : List Loc} {ls : Array Slot}  {k : Int → St → Prop} (hw : Wd G ((injC SB) S) H) (hS : va_S (AG G) s.heap H locs) {xv1 : Int32} {x1 : Int} (xt1 : xv1.toInt = x1) {xv2 : Int32} {x2 : Int} (xt2 : xv2.toInt = x2) {xv3 : Int32} {x3 : Int} (xt3 : xv3.toInt = x3) {xv5 : Int32} {x5 : Int} (xt5 : xv5.toInt = x5) {xv6 : Int32} {x6 : Int} (xt6 : xv6.toInt = x6) {sv0 : Int32} {s0 : Int} (st0 : sv0.toInt = s0) {sv1 : Int32} {s1 : Int} (st1 : sv1.toInt = s1) (hl : lv_has ls 7 [(0, .ref (G.2.2 1037)), (1, .int xv1), (2, .int xv2), (3, .int xv3), (5, .int xv5), (6, .int xv6)])  (h : wX1_judge_96 S x1 x2 x3 x5 x6 s0 s1 k) : W p l e (rmF 5 116) s m args below meth c H locs 0 0 (MQ below (QcI G (injC SB) k) args s 0 0 (AG G)) (F0 m 96 ls [.int sv1, .int sv0]) := by
  refine y_icmp_eq C st0 st1 dX1_judge_96 (tgt := 102) (by decide) (fun c1 => ?_) (fun c1 => ?_)
  · have h := h.1 c1
    refine lv_iload_n C.1.1 C.1.2.1 dX1_judge_102 rfl (lv_at hl 1 rfl) ?_
    refine y_iconst C dX1_judge_103 ⟨by decide, by decide⟩ (fun v2 t2 => ?_)
    refine y_icmp_ne C xt1 t2 dX1_judge_104 (tgt := 110) (by decide) (fun c3 => ?_) (fun c3 => ?_)
    · have h := h.1 c3
      refine lv_aload_n C.1.1 C.1.2.1 dX1_judge_110 rfl (lv_at hl 0 rfl) ?_
      refine lv_iload_n C.1.1 C.1.2.1 dX1_judge_111 rfl (lv_at hl 1 rfl) ?_
      refine lv_iload_n C.1.1 C.1.2.1 dX1_judge_112 rfl (lv_at hl 2 rfl) ?_
      refine lv_iload_n C.1.1 C.1.2.1 dX1_judge_113 rfl (lv_at hl 3 rfl) ?_
      refine lv_iload C.1.1 C.1.2.1 dX1_judge_114 (lv_at hl 4 rfl) ?_
      refine y_cVIp C (As := [.int xv1, .int xv2, .int xv3, .int xv5]) (rest := []) ml_X1_157 (kX1_fitsReceiver l G SB S xt1 xt2 xt3 xt5 h) (ock_1 SB) (T := TX1) (N := 8) rfl (by decide) ⟨(Nat.le_of_ble_eq_true rfl), (Nat.le_of_ble_eq_true rfl)⟩ hl.1 rfl rfl (Nat.le_of_ble_eq_true rfl) hw hS dX1_judge_116 (fun v4 x_4 H locs t4 h hw hS => ?_)
      refine y_if_ne C t4 dX1_judge_119 (tgt := 125) (by decide) (fun c5 => ?_) (fun c5 => ?_)
      · have h := h.1 c5
        refine lv_iload_n C.1.1 C.1.2.1 dX1_judge_125 rfl (lv_at hl 1 rfl) ?_
        refine y_iconst C dX1_judge_126 ⟨by decide, by decide⟩ (fun v6 t6 => ?_)
        refine y_icmp_ne C xt1 t6 dX1_judge_127 (tgt := 153) (by decide) (fun c7 => ?_) (fun c7 => ?_)
        · have h := h.1 c7
          refine lv_aload_n C.1.1 C.1.2.1 dX1_judge_153 rfl (lv_at hl 0 rfl) ?_
          refine lv_aload_n C.1.1 C.1.2.1 dX1_judge_154 rfl (lv_at hl 0 rfl) ?_
          refine lv_iload C.1.1 C.1.2.1 dX1_judge_155 (lv_at hl 5 rfl) ?_
          refine lv_iload C.1.1 C.1.2.1 dX1_judge_157 (lv_at hl 4 rfl) ?_
          refine y_cVI C (As := [.int xv6, .int xv5]) (rest := [.ref (G.2.2 1037)]) ml_X1_163 (kX1_select l G SB S xt6 xt5 h) (ock_1 SB) (T := TX1) (N := 8) rfl (by decide) ⟨(Nat.le_of_ble_eq_true rfl), (Nat.le_of_ble_eq_true rfl)⟩ hl.1 rfl rfl (Nat.le_of_ble_eq_true rfl) hw hS dX1_judge_159 (fun v8 x_8 S_8 H locs t8 h hw hS => ?_)
          refine lv_iload C.1.1 C.1.2.1 dX1_judge_162 (lv_at hl 4 rfl) ?_
          refine y_cVI C (As := [.int v8, .int xv5]) (rest := []) ml_X1_160 (kX1_runThroughBridges l G SB S_8 t8 xt5 h) (ock_1 SB) (T := TX1) (N := 8) rfl (by decide) ⟨(Nat.le_of_ble_eq_true rfl), (Nat.le_of_ble_eq_true rfl)⟩ hl.1 rfl rfl (Nat.le_of_ble_eq_true rfl) hw hS dX1_judge_164 (fun v9 x_9 S_9 H locs t9 h hw hS => ?_)
          exact y_iret C hw hS t9 h dX1_judge_167
        · have h := h.2 c7
          refine lv_aload_n C.1.1 C.1.2.1 dX1_judge_130 rfl (lv_at hl 0 rfl) ?_
          refine lv_iload C.1.1 C.1.2.1 dX1_judge_131 (lv_at hl 5 rfl) ?_
          refine y_cVIp C (As := [.int xv6]) (rest := []) ml_X1_92 (kX1_isAbstract l G SB S xt6 h) (ock_1 SB) (T := TX1) (N := 8) rfl (by decide) ⟨(Nat.le_of_ble_eq_true rfl), (Nat.le_of_ble_eq_true rfl)⟩ hl.1 rfl rfl (Nat.le_of_ble_eq_true rfl) hw hS dX1_judge_133 (fun v10 x_10 H locs t10 h hw hS => ?_)
          refine y_if_eq C t10 dX1_judge_136 (tgt := 144) (by decide) (fun c11 => ?_) (fun c11 => ?_)
          · have h := h.1 c11
            refine lv_aload_n C.1.1 C.1.2.1 dX1_judge_144 rfl (lv_at hl 0 rfl) ?_
            refine lv_iload C.1.1 C.1.2.1 dX1_judge_145 (lv_at hl 5 rfl) ?_
            refine lv_iload C.1.1 C.1.2.1 dX1_judge_147 (lv_at hl 4 rfl) ?_
            refine y_cVI C (As := [.int xv6, .int xv5]) (rest := []) ml_X1_160 (kX1_runThroughBridges l G SB S xt6 xt5 h) (ock_1 SB) (T := TX1) (N := 8) rfl (by decide) ⟨(Nat.le_of_ble_eq_true rfl), (Nat.le_of_ble_eq_true rfl)⟩ hl.1 rfl rfl (Nat.le_of_ble_eq_true rfl) hw hS dX1_judge_149 (fun v12 x_12 S_12 H locs t12 h hw hS => ?_)
            exact y_iret C hw hS t12 h dX1_judge_152
          · have h := h.2 c11
            refine y_bipush C dX1_judge_139 ⟨by decide, by decide⟩ (fun v13 t13 => ?_)
            refine lv_goto (tgt := 152) C.1.1 C.1.2.1 dX1_judge_141 (by decide) ?_
            exact y_iret C hw hS t13 h dX1_judge_152
      · have h := h.2 c5
        refine y_bipush C dX1_judge_122 ⟨by decide, by decide⟩ (fun v14 t14 => ?_)
        exact y_iret C hw hS t14 h dX1_judge_124
    · have h := h.2 c3
      refine lv_iload C.1.1 C.1.2.1 dX1_judge_107 (lv_at hl 5 rfl) ?_
      exact y_iret C hw hS xt6 h dX1_judge_109
  · have h := h.2 c1
    refine y_bipush C dX1_judge_99 ⟨by decide, by decide⟩ (fun v15 t15 => ?_)
    exact y_iret C hw hS t15 h dX1_judge_101
set_option maxHeartbeats 4000000 in
set_option maxRecDepth 10000 in
theorem uX1_judge_68 {p : Program} {l : Launch} {e : Env} {s : State} {m : MethodId} {args : Array Value} {below : List Frame} {meth : Method} {c : Code} {G : GG} {SB : St} (C : Cx p s m args meth c G RX1 cX1_judge 7 (some .int)) {S : St} {H : Heap} {locs : List Loc} {ls : Array Slot}  {k : Int → St → Prop} (hw : Wd G ((injC SB) S) H) (hS : va_S (AG G) s.heap H locs) {xv1 : Int32} {x1 : Int} (xt1 : xv1.toInt = x1) {xv2 : Int32} {x2 : Int} (xt2 : xv2.toInt = x2) {xv3 : Int32} {x3 : Int} (xt3 : xv3.toInt = x3) {xv5 : Int32} {x5 : Int} (xt5 : xv5.toInt = x5) {xv6 : Int32} {x6 : Int} (xt6 : xv6.toInt = x6) {sv1 : Int32} {s1 : Int} (st1 : sv1.toInt = s1) {sv2 : Int32} {s2 : Int} (st2 : sv2.toInt = s2) {sv3 : Int32} {s3 : Int} (st3 : sv3.toInt = s3) {sv4 : Int32} {s4 : Int} (st4 : sv4.toInt = s4) (hl : lv_has ls 7 [(0, .ref (G.2.2 1037)), (1, .int xv1), (2, .int xv2), (3, .int xv3), (5, .int xv5), (6, .int xv6)])  (h : wX1_judge_68 S x1 x2 x3 x5 x6 s1 s2 s3 s4 k) : W p l e (rmF 5 116) s m args below meth c H locs 0 0 (MQ below (QcI G (injC SB) k) args s 0 0 (AG G)) (F0 m 68 ls [.int sv4, .int sv3, .int sv2, .int sv1, .ref (G.2.2 1037)]) := by
  refine y_cVIp C (As := [.int sv1, .int sv2, .int sv3, .int sv4]) (rest := []) ml_X1_153 (kX1_isGranted l G SB S st1 st2 st3 st4 h) (ock_1 SB) (T := TX1) (N := 8) rfl (by decide) ⟨(Nat.le_of_ble_eq_true rfl), (Nat.le_of_ble_eq_true rfl)⟩ hl.1 rfl rfl (Nat.le_of_ble_eq_true rfl) hw hS dX1_judge_68 (fun v1 x_1 H locs t1 h hw hS => ?_)
  refine y_if_ne C t1 dX1_judge_71 (tgt := 77) (by decide) (fun c2 => ?_) (fun c2 => ?_)
  · have h := h.1 c2
    refine lv_aload_n C.1.1 C.1.2.1 dX1_judge_77 rfl (lv_at hl 0 rfl) ?_
    refine lv_iload C.1.1 C.1.2.1 dX1_judge_78 (lv_at hl 5 rfl) ?_
    refine y_cVOp C (As := [.int xv6]) (rest := []) ml_X1_38 (kX1_memberOf l G SB S xt6 h) (ock_1 SB) (T := TX1) (N := 8) rfl (by decide) ⟨(Nat.le_of_ble_eq_true rfl), (Nat.le_of_ble_eq_true rfl)⟩ hl.1 rfl rfl (Nat.le_of_ble_eq_true rfl) hw hS dX1_judge_80 (fun x_3 H locs o3 h hw hS => ?_)
    refine y_cVIp C (As := []) (rest := []) ml_X1_112 (kX3_isStatic l G SB S o3 h) (oc_of SB o3) (T := TX3) (N := 8) rfl (by decide) ⟨(Nat.le_of_ble_eq_true rfl), (Nat.le_of_ble_eq_true rfl)⟩ hl.1 rfl rfl (Nat.le_of_ble_eq_true rfl) hw hS dX1_judge_83 (fun v4 x_4 H locs t4 h hw hS => ?_)
    refine lv_iload_n C.1.1 C.1.2.1 dX1_judge_86 rfl (lv_at hl 1 rfl) ?_
    refine y_iconst C dX1_judge_87 ⟨by decide, by decide⟩ (fun v5 t5 => ?_)
    refine y_icmp_ne C xt1 t5 dX1_judge_88 (tgt := 95) (by decide) (fun c6 => ?_) (fun c6 => ?_)
    · have h := h.1 c6
      refine y_iconst C dX1_judge_95 ⟨by decide, by decide⟩ (fun v7 t7 => ?_)
      exact uX1_judge_96 C hw hS xt1 xt2 xt3 xt5 xt6 t4 t7 (lv_sub hl [0, 1, 2, 3, 4, 5] rfl)  h
    · have h := h.2 c6
      refine y_iconst C dX1_judge_91 ⟨by decide, by decide⟩ (fun v8 t8 => ?_)
      refine lv_goto (tgt := 96) C.1.1 C.1.2.1 dX1_judge_92 (by decide) ?_
      exact uX1_judge_96 C hw hS xt1 xt2 xt3 xt5 xt6 t4 t8 (lv_sub hl [0, 1, 2, 3, 4, 5] rfl)  h
  · have h := h.2 c2
    refine y_bipush C dX1_judge_74 ⟨by decide, by decide⟩ (fun v9 t9 => ?_)
    exact y_iret C hw hS t9 h dX1_judge_76
set_option maxHeartbeats 4000000 in
set_option maxRecDepth 10000 in
theorem uX1_judge_0 {p : Program} {l : Launch} {e : Env} {s : State} {m : MethodId} {args : Array Value} {below : List Frame} {meth : Method} {c : Code} {G : GG} {SB : St} (C : Cx p s m args meth c G RX1 cX1_judge 7 (some .int)) {S : St} {H : Heap} {locs : List Loc} {ls : Array Slot}  {k : Int → St → Prop} (hw : Wd G ((injC SB) S) H) (hS : va_S (AG G) s.heap H locs) {xv1 : Int32} {x1 : Int} (xt1 : xv1.toInt = x1) {xv2 : Int32} {x2 : Int} (xt2 : xv2.toInt = x2) {xv3 : Int32} {x3 : Int} (xt3 : xv3.toInt = x3) {xv4 : Int32} {x4 : Int} (xt4 : xv4.toInt = x4) {xv5 : Int32} {x5 : Int} (xt5 : xv5.toInt = x5) (hl : lv_has ls 7 [(0, .ref (G.2.2 1037)), (1, .int xv1), (2, .int xv2), (3, .int xv3), (4, .int xv4), (5, .int xv5)])  (h : wX1_judge_0 S x1 x2 x3 x4 x5 k) : W p l e (rmF 5 116) s m args below meth c H locs 0 0 (MQ below (QcI G (injC SB) k) args s 0 0 (AG G)) (F0 m 0 ls []) := by
  refine lv_aload_n C.1.1 C.1.2.1 dX1_judge_0 rfl (lv_at hl 0 rfl) ?_
  refine y_iconst C dX1_judge_1 ⟨by decide, by decide⟩ (fun v1 t1 => ?_)
  obtain ⟨S_2, e2⟩ : ∃ z : St, z = up S 1037 7 0 := ⟨_, rfl⟩
  have h := h S_2 e2
  refine y_putI C fl_X1_135 fp_1_7 hw hS (ock_1 SB) rfl t1 dX1_judge_2 (fun H locs hw hS => ?_)
  have hw : Wd G ((injC SB) S_2) H := by rw [e2]; exact hw
  refine lv_aload_n C.1.1 C.1.2.1 dX1_judge_5 rfl (lv_at hl 0 rfl) ?_
  refine lv_iload_n C.1.1 C.1.2.1 dX1_judge_6 rfl (lv_at hl 1 rfl) ?_
  refine lv_iload_n C.1.1 C.1.2.1 dX1_judge_7 rfl (lv_at hl 2 rfl) ?_
  refine lv_iload_n C.1.1 C.1.2.1 dX1_judge_8 rfl (lv_at hl 3 rfl) ?_
  refine y_cVIp C (As := [.int xv1, .int xv2, .int xv3]) (rest := []) ml_X1_138 (kX1_fitsSort l G SB S_2 xt1 xt2 xt3 h) (ock_1 SB) (T := TX1) (N := 8) rfl (by decide) ⟨(Nat.le_of_ble_eq_true rfl), (Nat.le_of_ble_eq_true rfl)⟩ hl.1 rfl rfl (Nat.le_of_ble_eq_true rfl) hw hS dX1_judge_9 (fun v3 x_3 H locs t3 h hw hS => ?_)
  refine y_if_ne C t3 dX1_judge_12 (tgt := 18) (by decide) (fun c4 => ?_) (fun c4 => ?_)
  · have h := h.1 c4
    refine lv_aload_n C.1.1 C.1.2.1 dX1_judge_18 rfl (lv_at hl 0 rfl) ?_
    refine lv_aload_n C.1.1 C.1.2.1 dX1_judge_19 rfl (lv_at hl 0 rfl) ?_
    refine lv_iload_n C.1.1 C.1.2.1 dX1_judge_20 rfl (lv_at hl 1 rfl) ?_
    refine lv_iload_n C.1.1 C.1.2.1 dX1_judge_21 rfl (lv_at hl 2 rfl) ?_
    refine lv_iload_n C.1.1 C.1.2.1 dX1_judge_22 rfl (lv_at hl 3 rfl) ?_
    refine y_cVIp C (As := [.int xv1, .int xv2, .int xv3]) (rest := [.ref (G.2.2 1037)]) ml_X1_142 (kX1_placeOfSearch l G SB S_2 xt1 xt2 xt3 h) (ock_1 SB) (T := TX1) (N := 8) rfl (by decide) ⟨(Nat.le_of_ble_eq_true rfl), (Nat.le_of_ble_eq_true rfl)⟩ hl.1 rfl rfl (Nat.le_of_ble_eq_true rfl) hw hS dX1_judge_23 (fun v5 x_5 H locs t5 h hw hS => ?_)
    refine lv_aload_n C.1.1 C.1.2.1 dX1_judge_26 rfl (lv_at hl 0 rfl) ?_
    obtain ⟨x_6, e6⟩ : ∃ z : Int, z = S_2 1037 0 := ⟨_, rfl⟩
    obtain ⟨o6, h⟩ := h x_6 e6
    refine y_getO C fl_X1_25 hw (ock_1 SB) rfl e6 o6 dX1_judge_27 ?_
    refine y_getA C fl_X1_29 hw (oc_of SB o6) rfl (o := 2) rfl dX1_judge_30 ?_
    refine lv_iload C.1.1 C.1.2.1 dX1_judge_33 (lv_at hl 4 rfl) ?_
    obtain ⟨b8, h⟩ := h
    obtain ⟨x_8, e8⟩ : ∃ z : Int, z = x_6 + 150 + 3 * x4 := ⟨_, rfl⟩
    have h := h x_8 e8
    have o8 : isO 3 x_8 := isO_mb o6 b8 e8
    refine y_mbO C hw o6 xt4 b8 e8 dX1_judge_35 ?_
    refine y_getI C fl_X1_146 hw (oc_of SB o8) rfl dX1_judge_36 (fun v9 t9 => ?_)
    refine y_cVI C (As := [.int v5, .int v9]) (rest := []) ml_X1_149 (kX1_find l G SB S_2 t5 t9 h) (ock_1 SB) (T := TX1) (N := 8) rfl (by decide) ⟨(Nat.le_of_ble_eq_true rfl), (Nat.le_of_ble_eq_true rfl)⟩ hl.1 rfl rfl (Nat.le_of_ble_eq_true rfl) hw hS dX1_judge_39 (fun v10 x_10 S_10 H locs t10 h hw hS => ?_)
    refine lv_istore (lv' := [(6, .int v10), (0, .ref (G.2.2 1037)), (1, .int xv1), (2, .int xv2), (3, .int xv3), (4, .int xv4), (5, .int xv5)]) C.1.1 C.1.2.1 dX1_judge_42 hl (by decide) rfl (fun ls hl => ?_)
    refine lv_iload C.1.1 C.1.2.1 dX1_judge_44 (lv_at hl 0 rfl) ?_
    refine y_iconst C dX1_judge_46 ⟨by decide, by decide⟩ (fun v11 t11 => ?_)
    refine y_icmp_ne C t10 t11 dX1_judge_47 (tgt := 52) (by decide) (fun c12 => ?_) (fun c12 => ?_)
    · have h := h.1 c12
      refine lv_aload_n C.1.1 C.1.2.1 dX1_judge_52 rfl (lv_at hl 1 rfl) ?_
      refine lv_iload_n C.1.1 C.1.2.1 dX1_judge_53 rfl (lv_at hl 3 rfl) ?_
      refine lv_iload_n C.1.1 C.1.2.1 dX1_judge_54 rfl (lv_at hl 4 rfl) ?_
      refine lv_iload C.1.1 C.1.2.1 dX1_judge_55 (lv_at hl 0 rfl) ?_
      refine lv_iload_n C.1.1 C.1.2.1 dX1_judge_57 rfl (lv_at hl 2 rfl) ?_
      refine y_iconst C dX1_judge_58 ⟨by decide, by decide⟩ (fun v13 t13 => ?_)
      refine y_icmp_ne C xt1 t13 dX1_judge_59 (tgt := 66) (by decide) (fun c14 => ?_) (fun c14 => ?_)
      · have h := h.1 c14
        refine lv_iload C.1.1 C.1.2.1 dX1_judge_66 (lv_at hl 6 rfl) ?_
        exact uX1_judge_68 C hw hS xt1 xt2 xt3 xt5 t10 xt2 xt3 t10 xt5 (lv_sub hl [1, 2, 3, 4, 6, 0] rfl)  h
      · have h := h.2 c14
        refine lv_iload_n C.1.1 C.1.2.1 dX1_judge_62 rfl (lv_at hl 3 rfl) ?_
        refine lv_goto (tgt := 68) C.1.1 C.1.2.1 dX1_judge_63 (by decide) ?_
        exact uX1_judge_68 C hw hS xt1 xt2 xt3 xt5 t10 xt2 xt3 t10 xt2 (lv_sub hl [1, 2, 3, 4, 6, 0] rfl)  h
    · have h := h.2 c12
      refine y_iconst C dX1_judge_50 ⟨by decide, by decide⟩ (fun v15 t15 => ?_)
      exact y_iret C hw hS t15 h dX1_judge_51
  · have h := h.2 c4
    refine y_bipush C dX1_judge_15 ⟨by decide, by decide⟩ (fun v16 t16 => ?_)
    exact y_iret C hw hS t16 h dX1_judge_17
theorem kX1_judge (l : Launch) (G : GG) (SB S : St) {xv1 : Int32} {x1 : Int} (xt1 : xv1.toInt = x1) {xv2 : Int32} {x2 : Int} (xt2 : xv2.toInt = x2) {xv3 : Int32} {x3 : Int} (xt3 : xv3.toInt = x3) {xv4 : Int32} {x4 : Int} (xt4 : xv4.toInt = x4) {xv5 : Int32} {x5 : Int} (xt5 : xv5.toInt = x5) {k : Int → St → Prop} (h : wX1_judge S x1 x2 x3 x4 x5 k) : CnI l yX1_judge cX1_judge 7 (some .int) 5 116 G (injC SB) [.ref (G.2.2 1037), .int xv1, .int xv2, .int xv3, .int xv4, .int xv5] S k :=
  cn_body (by decide +kernel) (Nat.le_of_ble_eq_true rfl) (fun p e s m args below meth c ls C hw hl => uX1_judge_0 C hw va_S.rf xt1 xt2 xt3 xt4 xt5 (lv_sub hl [0, 1, 2, 3, 4, 5] rfl) h)
set_option maxHeartbeats 4000000 in
set_option maxRecDepth 10000 in
theorem uX1_count_81 {p : Program} {l : Launch} {e : Env} {s : State} {m : MethodId} {args : Array Value} {below : List Frame} {meth : Method} {c : Code} {G : GG} {SB : St} (C : Cx p s m args meth c G RX1 cX1_count 8 (some .int)) {S : St} {H : Heap} {locs : List Loc} {ls : Array Slot} {P5 : Int → Int → St → Prop} {k : Int → St → Prop} (hw : Wd G ((injC SB) S) H) (hS : va_S (AG G) s.heap H locs) {xv1 : Int32} {x1 : Int} (xt1 : xv1.toInt = x1) {xv2 : Int32} {x2 : Int} (xt2 : xv2.toInt = x2) {xv3 : Int32} {x3 : Int} (xt3 : xv3.toInt = x3) {xv4 : Int32} {x4 : Int} (xt4 : xv4.toInt = x4) {x5 : Int} (xo5 : isO 3 x5) {sv0 : Int32} {s0 : Int} (st0 : sv0.toInt = s0) (hl : lv_has ls 8 [(0, .ref (G.2.2 1037)), (1, .int xv1), (2, .int xv2), (3, .int xv3), (4, .int xv4), (5, .ref (G.2.2 (x5).toNat))]) (hP5 : ∀ {H : Heap} {locs : List Loc} {ls : Array Slot} {Sy : St} {yv3 : Int32} {y3 : Int} {yv4 : Int32} {y4 : Int}, yv3.toInt = y3 → yv4.toInt = y4 → Wd G ((injC SB) Sy) H → va_S (AG G) s.heap H locs → lv_has ls 8 [(0, .ref (G.2.2 1037)), (1, .int xv1), (2, .int xv2), (3, .int yv3), (4, .int yv4)] → P5 y3 y4 Sy → W p l e (rmF 6 142) s m args below meth c H locs 0 0 (MQ below (QcI G (injC SB) k) args s 0 0 (AG G)) (F0 m 5 ls [])) (h : wX1_count_81 S x1 x2 x3 x4 x5 s0 P5 k) : W p l e (rmF 6 142) s m args below meth c H locs 0 0 (MQ below (QcI G (injC SB) k) args s 0 0 (AG G)) (F0 m 81 ls [.int sv0]) := by
  refine lv_istore (lv' := [(6, .int sv0), (0, .ref (G.2.2 1037)), (1, .int xv1), (2, .int xv2), (3, .int xv3), (4, .int xv4), (5, .ref (G.2.2 (x5).toNat))]) C.1.1 C.1.2.1 dX1_count_81 hl (by decide) rfl (fun ls hl => ?_)
  refine lv_aload_n C.1.1 C.1.2.1 dX1_count_83 rfl (lv_at hl 1 rfl) ?_
  refine lv_iload C.1.1 C.1.2.1 dX1_count_84 (lv_at hl 0 rfl) ?_
  refine lv_aload C.1.1 C.1.2.1 dX1_count_86 (lv_at hl 6 rfl) ?_
  refine y_getI C fl_X1_85 hw (oc_of SB xo5) rfl dX1_count_88 (fun v1 t1 => ?_)
  refine lv_aload C.1.1 C.1.2.1 dX1_count_91 (lv_at hl 6 rfl) ?_
  refine y_getI C fl_X1_85 hw (oc_of SB xo5) rfl dX1_count_93 (fun v2 t2 => ?_)
  refine lv_iload C.1.1 C.1.2.1 dX1_count_96 (lv_at hl 5 rfl) ?_
  refine lv_iload_n C.1.1 C.1.2.1 dX1_count_98 rfl (lv_at hl 2 rfl) ?_
  refine y_cVI C (As := [.int sv0, .int v1, .int v2, .int xv4, .int xv1]) (rest := []) ml_X1_181 (kX1_judge l G SB S st0 t1 t2 xt4 xt1 h) (ock_1 SB) (T := TX1) (N := 8) rfl (by decide) ⟨(Nat.le_of_ble_eq_true rfl), (Nat.le_of_ble_eq_true rfl)⟩ hl.1 rfl rfl (Nat.le_of_ble_eq_true rfl) hw hS dX1_count_99 (fun v3 x_3 S_3 H locs t3 h hw hS => ?_)
  refine lv_istore (lv' := [(7, .int v3), (6, .int sv0), (0, .ref (G.2.2 1037)), (1, .int xv1), (2, .int xv2), (3, .int xv3), (4, .int xv4), (5, .ref (G.2.2 (x5).toNat))]) C.1.1 C.1.2.1 dX1_count_102 hl (by decide) rfl (fun ls hl => ?_)
  refine lv_iload C.1.1 C.1.2.1 dX1_count_104 (lv_at hl 0 rfl) ?_
  refine y_iconst C dX1_count_106 ⟨by decide, by decide⟩ (fun v4 t4 => ?_)
  refine y_min C (ix := 185) mm_X1 t3 t4 hl.1 (Nat.le_of_ble_eq_true rfl) (Nat.le_of_ble_eq_true rfl) dX1_count_107 (fun v5 t5 => ?_)
  refine lv_iload_n C.1.1 C.1.2.1 dX1_count_110 rfl (lv_at hl 4 rfl) ?_
  refine y_icmp_ne C t5 xt2 dX1_count_111 (tgt := 117) (by decide) (fun c6 => ?_) (fun c6 => ?_)
  · have h := h.1 c6
    obtain ⟨x_7, e7⟩ : ∃ z : Int, z = w32 (x4 + 1) := ⟨_, rfl⟩
    have h := h x_7 e7
    obtain ⟨v7, t7, g7⟩ : ∃ z : Int32, z.toInt = x_7 ∧ xv4 + Int32.ofInt 1 = z := ⟨_, (ti_inc xt4 ⟨by decide, by decide⟩).trans e7.symm, rfl⟩
    refine lv_iinc (v := v7) (lv' := [(4, .int v7), (7, .int v3), (6, .int sv0), (0, .ref (G.2.2 1037)), (1, .int xv1), (2, .int xv2), (3, .int xv3), (5, .ref (G.2.2 (x5).toNat))]) C.1.1 C.1.2.1 dX1_count_117 hl (k := 6) rfl g7 (by decide) rfl (fun ls hl => ?_)
    refine lv_goto (tgt := 5) C.1.1 C.1.2.1 dX1_count_120 (by decide) ?_
    exact hP5 xt3 t7 hw hS (lv_sub hl [3, 4, 5, 6, 0] rfl) h
  · have h := h.2 c6
    obtain ⟨x_8, e8⟩ : ∃ z : Int, z = w32 (x3 + 1) := ⟨_, rfl⟩
    have h := h x_8 e8
    obtain ⟨v8, t8, g8⟩ : ∃ z : Int32, z.toInt = x_8 ∧ xv3 + Int32.ofInt 1 = z := ⟨_, (ti_inc xt3 ⟨by decide, by decide⟩).trans e8.symm, rfl⟩
    refine lv_iinc (v := v8) (lv' := [(3, .int v8), (7, .int v3), (6, .int sv0), (0, .ref (G.2.2 1037)), (1, .int xv1), (2, .int xv2), (4, .int xv4), (5, .ref (G.2.2 (x5).toNat))]) C.1.1 C.1.2.1 dX1_count_114 hl (k := 5) rfl g8 (by decide) rfl (fun ls hl => ?_)
    obtain ⟨x_9, e9⟩ : ∃ z : Int, z = w32 (x4 + 1) := ⟨_, rfl⟩
    have h := h x_9 e9
    obtain ⟨v9, t9, g9⟩ : ∃ z : Int32, z.toInt = x_9 ∧ xv4 + Int32.ofInt 1 = z := ⟨_, (ti_inc xt4 ⟨by decide, by decide⟩).trans e9.symm, rfl⟩
    refine lv_iinc (v := v9) (lv' := [(4, .int v9), (3, .int v8), (7, .int v3), (6, .int sv0), (0, .ref (G.2.2 1037)), (1, .int xv1), (2, .int xv2), (5, .ref (G.2.2 (x5).toNat))]) C.1.1 C.1.2.1 dX1_count_117 hl (k := 6) rfl g9 (by decide) rfl (fun ls hl => ?_)
    refine lv_goto (tgt := 5) C.1.1 C.1.2.1 dX1_count_120 (by decide) ?_
    exact hP5 t8 t9 hw hS (lv_sub hl [4, 5, 6, 1, 0] rfl) h
set_option maxHeartbeats 4000000 in
set_option maxRecDepth 10000 in
theorem uX1_count_5_b {p : Program} {l : Launch} {e : Env} {s : State} {m : MethodId} {args : Array Value} {below : List Frame} {meth : Method} {c : Code} {G : GG} {SB : St} (C : Cx p s m args meth c G RX1 cX1_count 8 (some .int)) {S : St} {H : Heap} {locs : List Loc} {ls : Array Slot}  {P5 : Int → Int → St → Prop} {k : Int → St → Prop} (hw : Wd G ((injC SB) S) H) (hS : va_S (AG G) s.heap H locs) {xv1 : Int32} {x1 : Int} (xt1 : xv1.toInt = x1) {xv2 : Int32} {x2 : Int} (xt2 : xv2.toInt = x2) {xv3 : Int32} {x3 : Int} (xt3 : xv3.toInt = x3) {xv4 : Int32} {x4 : Int} (xt4 : xv4.toInt = x4) (hl : lv_has ls 8 [(0, .ref (G.2.2 1037)), (1, .int xv1), (2, .int xv2), (3, .int xv3), (4, .int xv4)])  (hP5 : ∀ {H : Heap} {locs : List Loc} {ls : Array Slot} {Sy : St} {yv3 : Int32} {y3 : Int} {yv4 : Int32} {y4 : Int}, yv3.toInt = y3 → yv4.toInt = y4 → Wd G ((injC SB) Sy) H → va_S (AG G) s.heap H locs → lv_has ls 8 [(0, .ref (G.2.2 1037)), (1, .int xv1), (2, .int xv2), (3, .int yv3), (4, .int yv4)] → P5 y3 y4 Sy → W p l e (rmF 6 142) s m args below meth c H locs 0 0 (MQ below (QcI G (injC SB) k) args s 0 0 (AG G)) (F0 m 5 ls [])) (h : wX1_count_5_b S x1 x2 x3 x4 P5 k) : W p l e (rmF 6 142) s m args below meth c H locs 0 0 (MQ below (QcI G (injC SB) k) args s 0 0 (AG G)) (F0 m 5 ls []) := by
  refine lv_iload C.1.1 C.1.2.1 dX1_count_5 (lv_at hl 4 rfl) ?_
  refine lv_aload_n C.1.1 C.1.2.1 dX1_count_7 rfl (lv_at hl 0 rfl) ?_
  obtain ⟨x_1, e1⟩ : ∃ z : Int, z = S 1037 0 := ⟨_, rfl⟩
  obtain ⟨o1, h⟩ := h x_1 e1
  refine y_getO C fl_X1_25 hw (ock_1 SB) rfl e1 o1 dX1_count_8 ?_
  refine y_getI C fl_X1_178 hw (oc_of SB o1) rfl dX1_count_11 (fun v2 t2 => ?_)
  refine y_icmp_ge C xt4 t2 dX1_count_14 (tgt := 123) (by decide) (fun c3 => ?_) (fun c3 => ?_)
  · have h := h.1 c3
    refine lv_iload_n C.1.1 C.1.2.1 dX1_count_123 rfl (lv_at hl 3 rfl) ?_
    exact y_iret C hw hS xt3 h dX1_count_124
  · have h := h.2 c3
    refine lv_aload_n C.1.1 C.1.2.1 dX1_count_17 rfl (lv_at hl 0 rfl) ?_
    obtain ⟨x_4, e4⟩ : ∃ z : Int, z = S 1037 0 := ⟨_, rfl⟩
    obtain ⟨o4, h⟩ := h x_4 e4
    refine y_getO C fl_X1_25 hw (ock_1 SB) rfl e4 o4 dX1_count_18 ?_
    refine y_getA C fl_X1_29 hw (oc_of SB o4) rfl (o := 2) rfl dX1_count_21 ?_
    refine lv_iload C.1.1 C.1.2.1 dX1_count_24 (lv_at hl 4 rfl) ?_
    obtain ⟨b6, h⟩ := h
    obtain ⟨x_6, e6⟩ : ∃ z : Int, z = x_4 + 150 + 3 * x4 := ⟨_, rfl⟩
    have h := h x_6 e6
    have o6 : isO 3 x_6 := isO_mb o4 b6 e6
    refine y_mbO C hw o4 xt4 b6 e6 dX1_count_26 ?_
    refine lv_astore (lv' := [(5, .ref (G.2.2 (x_6).toNat)), (0, .ref (G.2.2 1037)), (1, .int xv1), (2, .int xv2), (3, .int xv3), (4, .int xv4)]) C.1.1 C.1.2.1 dX1_count_27 hl (by decide) rfl (fun ls hl => ?_)
    refine lv_aload_n C.1.1 C.1.2.1 dX1_count_29 rfl (lv_at hl 1 rfl) ?_
    obtain ⟨x_7, e7⟩ : ∃ z : Int, z = S 1037 0 := ⟨_, rfl⟩
    obtain ⟨o7, h⟩ := h x_7 e7
    refine y_getO C fl_X1_25 hw (ock_1 SB) rfl e7 o7 dX1_count_30 ?_
    refine lv_iload_n C.1.1 C.1.2.1 dX1_count_33 rfl (lv_at hl 2 rfl) ?_
    refine lv_aload C.1.1 C.1.2.1 dX1_count_34 (lv_at hl 0 rfl) ?_
    refine y_getI C fl_X1_85 hw (oc_of SB o6) rfl dX1_count_36 (fun v8 t8 => ?_)
    refine y_cVIp C (As := [.int xv1, .int v8]) (rest := []) ml_X1_88 (kX2_isUnder l G SB S o7 xt1 t8 h) (oc_of SB o7) (T := TX2) (N := 9) rfl (by decide) ⟨(Nat.le_of_ble_eq_true rfl), (Nat.le_of_ble_eq_true rfl)⟩ hl.1 rfl rfl (Nat.le_of_ble_eq_true rfl) hw hS dX1_count_39 (fun v9 x_9 H locs t9 h hw hS => ?_)
    refine y_if_eq C t9 dX1_count_42 (tgt := 117) (by decide) (fun c10 => ?_) (fun c10 => ?_)
    · have h := h.1 c10
      obtain ⟨x_11, e11⟩ : ∃ z : Int, z = w32 (x4 + 1) := ⟨_, rfl⟩
      have h := h x_11 e11
      obtain ⟨v11, t11, g11⟩ : ∃ z : Int32, z.toInt = x_11 ∧ xv4 + Int32.ofInt 1 = z := ⟨_, (ti_inc xt4 ⟨by decide, by decide⟩).trans e11.symm, rfl⟩
      refine lv_iinc (v := v11) (lv' := [(4, .int v11), (5, .ref (G.2.2 (x_6).toNat)), (0, .ref (G.2.2 1037)), (1, .int xv1), (2, .int xv2), (3, .int xv3)]) C.1.1 C.1.2.1 dX1_count_117 hl (k := 5) rfl g11 (by decide) rfl (fun ls hl => ?_)
      refine lv_goto (tgt := 5) C.1.1 C.1.2.1 dX1_count_120 (by decide) ?_
      exact hP5 xt3 t11 hw hS (lv_sub hl [2, 3, 4, 5, 0] rfl) h
    · have h := h.2 c10
      refine lv_aload C.1.1 C.1.2.1 dX1_count_45 (lv_at hl 0 rfl) ?_
      refine y_cVIp C (As := []) (rest := []) ml_X1_112 (kX3_isStatic l G SB S o6 h) (oc_of SB o6) (T := TX3) (N := 8) rfl (by decide) ⟨(Nat.le_of_ble_eq_true rfl), (Nat.le_of_ble_eq_true rfl)⟩ hl.1 rfl rfl (Nat.le_of_ble_eq_true rfl) hw hS dX1_count_47 (fun v12 x_12 H locs t12 h hw hS => ?_)
      refine y_if_eq C t12 dX1_count_50 (tgt := 57) (by decide) (fun c13 => ?_) (fun c13 => ?_)
      · have h := h.1 c13
        refine lv_aload_n C.1.1 C.1.2.1 dX1_count_57 rfl (lv_at hl 1 rfl) ?_
        obtain ⟨x_14, e14⟩ : ∃ z : Int, z = S 1037 0 := ⟨_, rfl⟩
        obtain ⟨o14, h⟩ := h x_14 e14
        refine y_getO C fl_X1_25 hw (ock_1 SB) rfl e14 o14 dX1_count_58 ?_
        refine y_getA C fl_X1_48 hw (oc_of SB o14) rfl (o := 1) rfl dX1_count_61 ?_
        refine lv_aload C.1.1 C.1.2.1 dX1_count_64 (lv_at hl 0 rfl) ?_
        refine y_getI C fl_X1_85 hw (oc_of SB o6) rfl dX1_count_66 (fun v16 t16 => ?_)
        obtain ⟨b17, h⟩ := h
        obtain ⟨x_17, e17⟩ : ∃ z : Int, z = x_14 + 6 + 6 * (S x_6 1) := ⟨_, rfl⟩
        have h := h x_17 e17
        have o17 : isO 6 x_17 := isO_ty o14 b17 e17
        refine y_tyO C hw o14 t16 b17 e17 dX1_count_69 ?_
        refine y_cVIp C (As := []) (rest := []) ml_X1_52 (kX6_isFace l G SB S o17 h) (oc_of SB o17) (T := TX6) (N := 20) rfl (by decide) ⟨(Nat.le_of_ble_eq_true rfl), (Nat.le_of_ble_eq_true rfl)⟩ hl.1 rfl rfl (Nat.le_of_ble_eq_true rfl) hw hS dX1_count_70 (fun v18 x_18 H locs t18 h hw hS => ?_)
        refine y_if_eq C t18 dX1_count_73 (tgt := 80) (by decide) (fun c19 => ?_) (fun c19 => ?_)
        · have h := h.1 c19
          refine y_iconst C dX1_count_80 ⟨by decide, by decide⟩ (fun v20 t20 => ?_)
          exact uX1_count_81 C hw hS xt1 xt2 xt3 xt4 o6 t20 (lv_sub hl [1, 2, 3, 4, 5, 0] rfl) hP5 h
        · have h := h.2 c19
          refine y_iconst C dX1_count_76 ⟨by decide, by decide⟩ (fun v21 t21 => ?_)
          refine lv_goto (tgt := 81) C.1.1 C.1.2.1 dX1_count_77 (by decide) ?_
          exact uX1_count_81 C hw hS xt1 xt2 xt3 xt4 o6 t21 (lv_sub hl [1, 2, 3, 4, 5, 0] rfl) hP5 h
      · have h := h.2 c13
        refine y_iconst C dX1_count_53 ⟨by decide, by decide⟩ (fun v22 t22 => ?_)
        refine lv_goto (tgt := 81) C.1.1 C.1.2.1 dX1_count_54 (by decide) ?_
        exact uX1_count_81 C hw hS xt1 xt2 xt3 xt4 o6 t22 (lv_sub hl [1, 2, 3, 4, 5, 0] rfl) hP5 h
set_option maxHeartbeats 4000000 in
set_option maxRecDepth 10000 in
theorem uX1_count_5 {p : Program} {l : Launch} {e : Env} {s : State} {m : MethodId} {args : Array Value} {below : List Frame} {meth : Method} {c : Code} {G : GG} {SB : St} (C : Cx p s m args meth c G RX1 cX1_count 8 (some .int)) {S : St} {H : Heap} {locs : List Loc} {ls : Array Slot}  {k : Int → St → Prop} (hw : Wd G ((injC SB) S) H) (hS : va_S (AG G) s.heap H locs) {xv1 : Int32} {x1 : Int} (xt1 : xv1.toInt = x1) {xv2 : Int32} {x2 : Int} (xt2 : xv2.toInt = x2) {xv3 : Int32} {x3 : Int} (xt3 : xv3.toInt = x3) {xv4 : Int32} {x4 : Int} (xt4 : xv4.toInt = x4) (hl : lv_has ls 8 [(0, .ref (G.2.2 1037)), (1, .int xv1), (2, .int xv2), (3, .int xv3), (4, .int xv4)])  (h : wX1_count_5 S x1 x2 x3 x4 k) : W p l e (rmF 6 142) s m args below meth c H locs 0 0 (MQ below (QcI G (injC SB) k) args s 0 0 (AG G)) (F0 m 5 ls []) := by
  have key : ∀ (n : Nat) {H : Heap} {locs : List Loc} {ls : Array Slot} {S : St} {xv3 : Int32} {x3 : Int} {xv4 : Int32} {x4 : Int}, xv3.toInt = x3 → xv4.toInt = x4 → Wd G ((injC SB) S) H → va_S (AG G) s.heap H locs → lv_has ls 8 [(0, .ref (G.2.2 1037)), (1, .int xv1), (2, .int xv2), (3, .int xv3), (4, .int xv4)] → itP (fun (P : Int × Int × St → Prop) (a : Int × Int × St) => wX1_count_5_b a.2.2 x1 x2 a.1 a.2.1 (fun b0 b1 b2 => P (b0, b1, b2)) k) n (x3, x4, S) → W p l e (rmF 6 142) s m args below meth c H locs 0 0 (MQ below (QcI G (injC SB) k) args s 0 0 (AG G)) (F0 m 5 ls []) := by
    intro n
    induction n with
    | zero => intro H locs ls S xv3 x3 xv4 x4 xt3 xt4 hw hS hl h; exact h.elim
    | succ n ih =>
      intro H locs ls S xv3 x3 xv4 x4 xt3 xt4 hw hS hl h
      exact uX1_count_5_b C hw hS xt1 xt2 xt3 xt4 hl  (P5 := fun b0 b1 b2 => itP _ n (b0, b1, b2)) (fun q0 q1 hw hS hl h => ih q0 q1 hw hS hl h) h
  obtain ⟨n, hn⟩ := h
  exact key n xt3 xt4 hw hS hl hn
set_option maxHeartbeats 4000000 in
set_option maxRecDepth 10000 in
theorem uX1_count_0 {p : Program} {l : Launch} {e : Env} {s : State} {m : MethodId} {args : Array Value} {below : List Frame} {meth : Method} {c : Code} {G : GG} {SB : St} (C : Cx p s m args meth c G RX1 cX1_count 8 (some .int)) {S : St} {H : Heap} {locs : List Loc} {ls : Array Slot}  {k : Int → St → Prop} (hw : Wd G ((injC SB) S) H) (hS : va_S (AG G) s.heap H locs) {xv1 : Int32} {x1 : Int} (xt1 : xv1.toInt = x1) {xv2 : Int32} {x2 : Int} (xt2 : xv2.toInt = x2) (hl : lv_has ls 8 [(0, .ref (G.2.2 1037)), (1, .int xv1), (2, .int xv2)])  (h : wX1_count_0 S x1 x2 k) : W p l e (rmF 6 142) s m args below meth c H locs 0 0 (MQ below (QcI G (injC SB) k) args s 0 0 (AG G)) (F0 m 0 ls []) := by
  refine y_iconst C dX1_count_0 ⟨by decide, by decide⟩ (fun v1 t1 => ?_)
  refine lv_istore_n (lv' := [(3, .int v1), (0, .ref (G.2.2 1037)), (1, .int xv1), (2, .int xv2)]) C.1.1 C.1.2.1 dX1_count_1 rfl hl (by decide) rfl (fun ls hl => ?_)
  refine y_iconst C dX1_count_2 ⟨by decide, by decide⟩ (fun v2 t2 => ?_)
  refine lv_istore (lv' := [(4, .int v2), (3, .int v1), (0, .ref (G.2.2 1037)), (1, .int xv1), (2, .int xv2)]) C.1.1 C.1.2.1 dX1_count_3 hl (by decide) rfl (fun ls hl => ?_)
  exact uX1_count_5 C hw hS xt1 xt2 t1 t2 (lv_sub hl [2, 3, 4, 1, 0] rfl)  h
theorem kX1_count (l : Launch) (G : GG) (SB S : St) {xv1 : Int32} {x1 : Int} (xt1 : xv1.toInt = x1) {xv2 : Int32} {x2 : Int} (xt2 : xv2.toInt = x2) {k : Int → St → Prop} (h : wX1_count S x1 x2 k) : CnI l yX1_count cX1_count 8 (some .int) 6 142 G (injC SB) [.ref (G.2.2 1037), .int xv1, .int xv2] S k :=
  cn_body (by decide +kernel) (Nat.le_of_ble_eq_true rfl) (fun p e s m args below meth c ls C hw hl => uX1_count_0 C hw va_S.rf xt1 xt2 (lv_sub hl [0, 1, 2] rfl) h)
