/-! by program: the machine meets the models -/
set_option maxHeartbeats 4000000 in
set_option maxRecDepth 10000 in
theorem uX3_hasErasedKindsOf_0 {p : Program} {l : Launch} {e : Env} {s : State} {m : MethodId} {args : Array Value} {below : List Frame} {meth : Method} {c : Code} {G : GG} {SB : St} (C : Cx p s m args meth c G RX3 cX3_hasErasedKindsOf 2 (some .boolean)) {S : St} {H : Heap} {locs : List Loc} {ls : Array Slot}  {k : Int → Prop} (hw : Wd G ((injC SB) S) H) (hS : va_S (AG G) s.heap H locs) {x0 : Int} (xo0 : isO 3 x0) {x1 : Int} (xo1 : isO 3 x1) (hl : lv_has ls 2 [(0, .ref (G.2.2 (x0).toNat)), (1, .ref (G.2.2 (x1).toNat))])  (h : wX3_hasErasedKindsOf_0 S x0 x1 k) : W p l e (rmF 0 0) s m args below meth c H locs 0 0 (MQ below (QcI G (injC SB) (fun r u => k r ∧ u = S)) args s 0 0 (AG G)) (F0 m 0 ls []) := by
  refine lv_aload_n C.1.1 C.1.2.1 dX3_hasErasedKindsOf_0 rfl (lv_at hl 0 rfl) ?_
  refine y_getJ C fl_X3_22 hw (oc_of SB xo0) rfl dX3_hasErasedKindsOf_1 (fun v1 t1 => ?_)
  refine lv_aload_n C.1.1 C.1.2.1 dX3_hasErasedKindsOf_4 rfl (lv_at hl 1 rfl) ?_
  refine y_getJ C fl_X3_22 hw (oc_of SB xo1) rfl dX3_hasErasedKindsOf_5 (fun v2 t2 => ?_)
  refine y_lcmp C t1 t2 dX3_hasErasedKindsOf_8 (fun v3 t3 => ?_)
  refine y_if_ne C t3 dX3_hasErasedKindsOf_9 (tgt := 46) (by decide) (fun c4 => ?_) (fun c4 => ?_)
  · have c4 := cmp_ne.mp c4
    have h := h.1 c4
    refine y_iconst C dX3_hasErasedKindsOf_46 ⟨by decide, by decide⟩ (fun v5 t5 => ?_)
    exact y_zret C hw hS t5 (Or.inl rfl) ⟨h, rfl⟩ dX3_hasErasedKindsOf_47
  · have c4 := cmp_eq.mp c4
    have h := h.2 c4
    refine lv_aload_n C.1.1 C.1.2.1 dX3_hasErasedKindsOf_12 rfl (lv_at hl 0 rfl) ?_
    refine y_getA C fl_X3_15 hw (oc_of SB xo0) rfl (o := 2) rfl dX3_hasErasedKindsOf_13 ?_
    refine y_iconst C dX3_hasErasedKindsOf_16 ⟨by decide, by decide⟩ (fun v7 t7 => ?_)
    refine y_iald C hw (ac_3_6 SB xo0) t7 ⟨by decide, by decide⟩ dX3_hasErasedKindsOf_17 (fun v8 t8 => ?_)
    refine lv_aload_n C.1.1 C.1.2.1 dX3_hasErasedKindsOf_18 rfl (lv_at hl 1 rfl) ?_
    refine y_getA C fl_X3_15 hw (oc_of SB xo1) rfl (o := 2) rfl dX3_hasErasedKindsOf_19 ?_
    refine y_iconst C dX3_hasErasedKindsOf_22 ⟨by decide, by decide⟩ (fun v10 t10 => ?_)
    refine y_iald C hw (ac_3_6 SB xo1) t10 ⟨by decide, by decide⟩ dX3_hasErasedKindsOf_23 (fun v11 t11 => ?_)
    refine y_icmp_ne C t8 t11 dX3_hasErasedKindsOf_24 (tgt := 46) (by decide) (fun c12 => ?_) (fun c12 => ?_)
    · have h := h.1 c12
      refine y_iconst C dX3_hasErasedKindsOf_46 ⟨by decide, by decide⟩ (fun v13 t13 => ?_)
      exact y_zret C hw hS t13 (Or.inl rfl) ⟨h, rfl⟩ dX3_hasErasedKindsOf_47
    · have h := h.2 c12
      refine lv_aload_n C.1.1 C.1.2.1 dX3_hasErasedKindsOf_27 rfl (lv_at hl 0 rfl) ?_
      refine y_getA C fl_X3_15 hw (oc_of SB xo0) rfl (o := 2) rfl dX3_hasErasedKindsOf_28 ?_
      refine y_iconst C dX3_hasErasedKindsOf_31 ⟨by decide, by decide⟩ (fun v15 t15 => ?_)
      refine y_iald C hw (ac_3_6 SB xo0) t15 ⟨by decide, by decide⟩ dX3_hasErasedKindsOf_32 (fun v16 t16 => ?_)
      refine lv_aload_n C.1.1 C.1.2.1 dX3_hasErasedKindsOf_33 rfl (lv_at hl 1 rfl) ?_
      refine y_getA C fl_X3_15 hw (oc_of SB xo1) rfl (o := 2) rfl dX3_hasErasedKindsOf_34 ?_
      refine y_iconst C dX3_hasErasedKindsOf_37 ⟨by decide, by decide⟩ (fun v18 t18 => ?_)
      refine y_iald C hw (ac_3_6 SB xo1) t18 ⟨by decide, by decide⟩ dX3_hasErasedKindsOf_38 (fun v19 t19 => ?_)
      refine y_icmp_ne C t16 t19 dX3_hasErasedKindsOf_39 (tgt := 46) (by decide) (fun c20 => ?_) (fun c20 => ?_)
      · have h := h.1 c20
        refine y_iconst C dX3_hasErasedKindsOf_46 ⟨by decide, by decide⟩ (fun v21 t21 => ?_)
        exact y_zret C hw hS t21 (Or.inl rfl) ⟨h, rfl⟩ dX3_hasErasedKindsOf_47
      · have h := h.2 c20
        refine y_iconst C dX3_hasErasedKindsOf_42 ⟨by decide, by decide⟩ (fun v22 t22 => ?_)
        refine lv_goto (tgt := 47) C.1.1 C.1.2.1 dX3_hasErasedKindsOf_43 (by decide) ?_
        exact y_zret C hw hS t22 (Or.inr rfl) ⟨h, rfl⟩ dX3_hasErasedKindsOf_47
theorem kX3_hasErasedKindsOf (l : Launch) (G : GG) (SB S : St) {x0 : Int} (xo0 : isO 3 x0) {x1 : Int} (xo1 : isO 3 x1) {k : Int → Prop} (h : wX3_hasErasedKindsOf S x0 x1 k) : CnI l yX3_hasErasedKindsOf cX3_hasErasedKindsOf 2 (some .boolean) 0 0 G (injC SB) [.ref (G.2.2 (x0).toNat), .ref (G.2.2 (x1).toNat)] S (fun r u => k r ∧ u = S) :=
  cn_body (by decide +kernel) (Nat.le_of_ble_eq_true rfl) (fun p e s m args below meth c ls C hw hl => uX3_hasErasedKindsOf_0 C hw va_S.rf xo0 xo1 (lv_sub hl [0, 1] rfl) h)
set_option maxHeartbeats 4000000 in
set_option maxRecDepth 10000 in
theorem uX6_isBelow_0 {p : Program} {l : Launch} {e : Env} {s : State} {m : MethodId} {args : Array Value} {below : List Frame} {meth : Method} {c : Code} {G : GG} {SB : St} (C : Cx p s m args meth c G RX6 cX6_isBelow 2 (some .boolean)) {S : St} {H : Heap} {locs : List Loc} {ls : Array Slot}  {k : Int → Prop} (hw : Wd G ((injC SB) S) H) (hS : va_S (AG G) s.heap H locs) {x0 : Int} (xo0 : isO 6 x0) {xv1 : Int32} {x1 : Int} (xt1 : xv1.toInt = x1) (hl : lv_has ls 2 [(0, .ref (G.2.2 (x0).toNat)), (1, .int xv1)])  (h : wX6_isBelow_0 S x0 x1 k) : W p l e (rmF 0 0) s m args below meth c H locs 0 0 (MQ below (QcI G (injC SB) (fun r u => k r ∧ u = S)) args s 0 0 (AG G)) (F0 m 0 ls []) := by
  refine lv_aload_n C.1.1 C.1.2.1 dX6_isBelow_0 rfl (lv_at hl 0 rfl) ?_
  refine y_getI C fl_X6_63 hw (oc_of SB xo0) rfl dX6_isBelow_1 (fun v1 t1 => ?_)
  refine lv_iload_n C.1.1 C.1.2.1 dX6_isBelow_4 rfl (lv_at hl 1 rfl) ?_
  refine y_iushr C t1 xt1 dX6_isBelow_5 (fun v2 t2 => ?_)
  refine y_iconst C dX6_isBelow_6 ⟨by decide, by decide⟩ (fun v3 t3 => ?_)
  refine y_iand C t2 t3 dX6_isBelow_7 (fun v4 t4 => ?_)
  refine y_if_eq C t4 dX6_isBelow_8 (tgt := 15) (by decide) (fun c5 => ?_) (fun c5 => ?_)
  · have h := h.1 c5
    refine y_iconst C dX6_isBelow_15 ⟨by decide, by decide⟩ (fun v6 t6 => ?_)
    exact y_zret C hw hS t6 (Or.inl rfl) ⟨h, rfl⟩ dX6_isBelow_16
  · have h := h.2 c5
    refine y_iconst C dX6_isBelow_11 ⟨by decide, by decide⟩ (fun v7 t7 => ?_)
    refine lv_goto (tgt := 16) C.1.1 C.1.2.1 dX6_isBelow_12 (by decide) ?_
    exact y_zret C hw hS t7 (Or.inr rfl) ⟨h, rfl⟩ dX6_isBelow_16
theorem kX6_isBelow (l : Launch) (G : GG) (SB S : St) {x0 : Int} (xo0 : isO 6 x0) {xv1 : Int32} {x1 : Int} (xt1 : xv1.toInt = x1) {k : Int → Prop} (h : wX6_isBelow S x0 x1 k) : CnI l yX6_isBelow cX6_isBelow 2 (some .boolean) 0 0 G (injC SB) [.ref (G.2.2 (x0).toNat), .int xv1] S (fun r u => k r ∧ u = S) :=
  cn_body (by decide +kernel) (Nat.le_of_ble_eq_true rfl) (fun p e s m args below meth c ls C hw hl => uX6_isBelow_0 C hw va_S.rf xo0 xt1 (lv_sub hl [0, 1] rfl) h)
set_option maxHeartbeats 4000000 in
set_option maxRecDepth 10000 in
theorem uX6_argument_0 {p : Program} {l : Launch} {e : Env} {s : State} {m : MethodId} {args : Array Value} {below : List Frame} {meth : Method} {c : Code} {G : GG} {SB : St} (C : Cx p s m args meth c G RX6 cX6_argument 3 (some .int)) {S : St} {H : Heap} {locs : List Loc} {ls : Array Slot}  {k : Int → Prop} (hw : Wd G ((injC SB) S) H) (hS : va_S (AG G) s.heap H locs) {x0 : Int} (xo0 : isO 6 x0) {xv1 : Int32} {x1 : Int} (xt1 : xv1.toInt = x1) {xv2 : Int32} {x2 : Int} (xt2 : xv2.toInt = x2) (hl : lv_has ls 3 [(0, .ref (G.2.2 (x0).toNat)), (1, .int xv1), (2, .int xv2)])  (h : wX6_argument_0 S x0 x1 x2 k) : W p l e (rmF 0 0) s m args below meth c H locs 0 0 (MQ below (QcI G (injC SB) (fun r u => k r ∧ u = S)) args s 0 0 (AG G)) (F0 m 0 ls []) := by
  refine lv_aload_n C.1.1 C.1.2.1 dX6_argument_0 rfl (lv_at hl 0 rfl) ?_
  refine y_getA C fl_X6_25 hw (oc_of SB xo0) rfl (o := 5) rfl dX6_argument_1 ?_
  refine lv_iload_n C.1.1 C.1.2.1 dX6_argument_4 rfl (lv_at hl 1 rfl) ?_
  refine y_iconst C dX6_argument_5 ⟨by decide, by decide⟩ (fun v2 t2 => ?_)
  refine y_imul C xt1 t2 dX6_argument_6 (fun v3 t3 => ?_)
  refine lv_iload_n C.1.1 C.1.2.1 dX6_argument_7 rfl (lv_at hl 2 rfl) ?_
  refine y_iadd C t3 xt2 dX6_argument_8 (fun v4 t4 => ?_)
  obtain ⟨b5, h⟩ := h
  refine y_iald C hw (ac_6_15 SB xo0) t4 b5 dX6_argument_9 (fun v5 t5 => ?_)
  exact y_iret C hw hS t5 ⟨h, rfl⟩ dX6_argument_10
theorem kX6_argument (l : Launch) (G : GG) (SB S : St) {x0 : Int} (xo0 : isO 6 x0) {xv1 : Int32} {x1 : Int} (xt1 : xv1.toInt = x1) {xv2 : Int32} {x2 : Int} (xt2 : xv2.toInt = x2) {k : Int → Prop} (h : wX6_argument S x0 x1 x2 k) : CnI l yX6_argument cX6_argument 3 (some .int) 0 0 G (injC SB) [.ref (G.2.2 (x0).toNat), .int xv1, .int xv2] S (fun r u => k r ∧ u = S) :=
  cn_body (by decide +kernel) (Nat.le_of_ble_eq_true rfl) (fun p e s m args below meth c ls C hw hl => uX6_argument_0 C hw va_S.rf xo0 xt1 xt2 (lv_sub hl [0, 1, 2] rfl) h)
set_option maxHeartbeats 4000000 in
set_option maxRecDepth 10000 in
theorem uX6_setArgument_0 {p : Program} {l : Launch} {e : Env} {s : State} {m : MethodId} {args : Array Value} {below : List Frame} {meth : Method} {c : Code} {G : GG} {SB : St} (C : Cx p s m args meth c G RX6 cX6_setArgument 4 none) {S : St} {H : Heap} {locs : List Loc} {ls : Array Slot}  {k : St → Prop} (hw : Wd G ((injC SB) S) H) (hS : va_S (AG G) s.heap H locs) {x0 : Int} (xo0 : isO 6 x0) {xv1 : Int32} {x1 : Int} (xt1 : xv1.toInt = x1) {xv2 : Int32} {x2 : Int} (xt2 : xv2.toInt = x2) {xv3 : Int32} {x3 : Int} (xt3 : xv3.toInt = x3) (hl : lv_has ls 4 [(0, .ref (G.2.2 (x0).toNat)), (1, .int xv1), (2, .int xv2), (3, .int xv3)])  (h : wX6_setArgument_0 S x0 x1 x2 x3 k) : W p l e (rmF 0 0) s m args below meth c H locs 0 0 (MQ below (QcV G (injC SB) k) args s 0 0 (AG G)) (F0 m 0 ls []) := by
  refine lv_aload_n C.1.1 C.1.2.1 dX6_setArgument_0 rfl (lv_at hl 0 rfl) ?_
  refine y_getA C fl_X6_25 hw (oc_of SB xo0) rfl (o := 5) rfl dX6_setArgument_1 ?_
  refine lv_iload_n C.1.1 C.1.2.1 dX6_setArgument_4 rfl (lv_at hl 1 rfl) ?_
  refine y_iconst C dX6_setArgument_5 ⟨by decide, by decide⟩ (fun v2 t2 => ?_)
  refine y_imul C xt1 t2 dX6_setArgument_6 (fun v3 t3 => ?_)
  refine lv_iload_n C.1.1 C.1.2.1 dX6_setArgument_7 rfl (lv_at hl 2 rfl) ?_
  refine y_iadd C t3 xt2 dX6_setArgument_8 (fun v4 t4 => ?_)
  refine lv_iload_n C.1.1 C.1.2.1 dX6_setArgument_9 rfl (lv_at hl 3 rfl) ?_
  obtain ⟨b5, h⟩ := h
  obtain ⟨S_5, e5⟩ : ∃ z : St, z = up S (x0 + 5) (w32 (w32 (x1 * 2) + x2)) x3 := ⟨_, rfl⟩
  have h := h S_5 e5
  refine y_iast C hw hS (ac_6_15 SB xo0) t4 xt3 b5 dX6_setArgument_10 (fun H locs hw hS => ?_)
  have hw : Wd G ((injC SB) S_5) H := by rw [e5]; exact hw
  exact y_vret C hw hS h dX6_setArgument_11
theorem kX6_setArgument (l : Launch) (G : GG) (SB S : St) {x0 : Int} (xo0 : isO 6 x0) {xv1 : Int32} {x1 : Int} (xt1 : xv1.toInt = x1) {xv2 : Int32} {x2 : Int} (xt2 : xv2.toInt = x2) {xv3 : Int32} {x3 : Int} (xt3 : xv3.toInt = x3) {k : St → Prop} (h : wX6_setArgument S x0 x1 x2 x3 k) : CnV l yX6_setArgument cX6_setArgument 4 none 0 0 G (injC SB) [.ref (G.2.2 (x0).toNat), .int xv1, .int xv2, .int xv3] S k :=
  cn_body (by decide +kernel) (Nat.le_of_ble_eq_true rfl) (fun p e s m args below meth c ls C hw hl => uX6_setArgument_0 C hw va_S.rf xo0 xt1 xt2 xt3 (lv_sub hl [0, 1, 2, 3] rfl) h)
set_option maxHeartbeats 4000000 in
set_option maxRecDepth 10000 in
theorem uX2_isUnder_0 {p : Program} {l : Launch} {e : Env} {s : State} {m : MethodId} {args : Array Value} {below : List Frame} {meth : Method} {c : Code} {G : GG} {SB : St} (C : Cx p s m args meth c G RX2 cX2_isUnder 3 (some .boolean)) {S : St} {H : Heap} {locs : List Loc} {ls : Array Slot}  {k : Int → Prop} (hw : Wd G ((injC SB) S) H) (hS : va_S (AG G) s.heap H locs) {x0 : Int} (xo0 : isO 2 x0) {xv1 : Int32} {x1 : Int} (xt1 : xv1.toInt = x1) {xv2 : Int32} {x2 : Int} (xt2 : xv2.toInt = x2) (hl : lv_has ls 3 [(0, .ref (G.2.2 (x0).toNat)), (1, .int xv1), (2, .int xv2)])  (h : wX2_isUnder_0 S x0 x1 x2 k) : W p l e (rmF 0 0) s m args below meth c H locs 0 0 (MQ below (QcI G (injC SB) (fun r u => k r ∧ u = S)) args s 0 0 (AG G)) (F0 m 0 ls []) := by
  refine lv_iload_n C.1.1 C.1.2.1 dX2_isUnder_0 rfl (lv_at hl 1 rfl) ?_
  refine lv_iload_n C.1.1 C.1.2.1 dX2_isUnder_1 rfl (lv_at hl 2 rfl) ?_
  refine y_icmp_eq C xt1 xt2 dX2_isUnder_2 (tgt := 21) (by decide) (fun c1 => ?_) (fun c1 => ?_)
  · have h := h.1 c1
    refine y_iconst C dX2_isUnder_21 ⟨by decide, by decide⟩ (fun v2 t2 => ?_)
    refine lv_goto (tgt := 26) C.1.1 C.1.2.1 dX2_isUnder_22 (by decide) ?_
    exact y_zret C hw hS t2 (Or.inr rfl) ⟨h, rfl⟩ dX2_isUnder_26
  · have h := h.2 c1
    refine lv_aload_n C.1.1 C.1.2.1 dX2_isUnder_5 rfl (lv_at hl 0 rfl) ?_
    refine y_getA C fl_X2_11 hw (oc_of SB xo0) rfl (o := 1) rfl dX2_isUnder_6 ?_
    refine lv_iload_n C.1.1 C.1.2.1 dX2_isUnder_9 rfl (lv_at hl 1 rfl) ?_
    obtain ⟨b4, h⟩ := h
    obtain ⟨x_4, e4⟩ : ∃ z : Int, z = x0 + 6 + 6 * x1 := ⟨_, rfl⟩
    have h := h x_4 e4
    have o4 : isO 6 x_4 := isO_ty xo0 b4 e4
    refine y_tyO C hw xo0 xt1 b4 e4 dX2_isUnder_10 ?_
    refine y_getI C fl_X2_51 hw (oc_of SB o4) rfl dX2_isUnder_11 (fun v5 t5 => ?_)
    refine lv_iload_n C.1.1 C.1.2.1 dX2_isUnder_14 rfl (lv_at hl 2 rfl) ?_
    refine y_iushr C t5 xt2 dX2_isUnder_15 (fun v6 t6 => ?_)
    refine y_iconst C dX2_isUnder_16 ⟨by decide, by decide⟩ (fun v7 t7 => ?_)
    refine y_iand C t6 t7 dX2_isUnder_17 (fun v8 t8 => ?_)
    refine y_if_eq C t8 dX2_isUnder_18 (tgt := 25) (by decide) (fun c9 => ?_) (fun c9 => ?_)
    · have h := h.1 c9
      refine y_iconst C dX2_isUnder_25 ⟨by decide, by decide⟩ (fun v10 t10 => ?_)
      exact y_zret C hw hS t10 (Or.inl rfl) ⟨h, rfl⟩ dX2_isUnder_26
    · have h := h.2 c9
      refine y_iconst C dX2_isUnder_21 ⟨by decide, by decide⟩ (fun v11 t11 => ?_)
      refine lv_goto (tgt := 26) C.1.1 C.1.2.1 dX2_isUnder_22 (by decide) ?_
      exact y_zret C hw hS t11 (Or.inr rfl) ⟨h, rfl⟩ dX2_isUnder_26
theorem kX2_isUnder (l : Launch) (G : GG) (SB S : St) {x0 : Int} (xo0 : isO 2 x0) {xv1 : Int32} {x1 : Int} (xt1 : xv1.toInt = x1) {xv2 : Int32} {x2 : Int} (xt2 : xv2.toInt = x2) {k : Int → Prop} (h : wX2_isUnder S x0 x1 x2 k) : CnI l yX2_isUnder cX2_isUnder 3 (some .boolean) 0 0 G (injC SB) [.ref (G.2.2 (x0).toNat), .int xv1, .int xv2] S (fun r u => k r ∧ u = S) :=
  cn_body (by decide +kernel) (Nat.le_of_ble_eq_true rfl) (fun p e s m args below meth c ls C hw hl => uX2_isUnder_0 C hw va_S.rf xo0 xt1 xt2 (lv_sub hl [0, 1, 2] rfl) h)
set_option maxHeartbeats 4000000 in
set_option maxRecDepth 10000 in
theorem uX2_kindSeen_0 {p : Program} {l : Launch} {e : Env} {s : State} {m : MethodId} {args : Array Value} {below : List Frame} {meth : Method} {c : Code} {G : GG} {SB : St} (C : Cx p s m args meth c G RX2 cX2_kindSeen 5 (some .int)) {S : St} {H : Heap} {locs : List Loc} {ls : Array Slot}  {k : Int → Prop} (hw : Wd G ((injC SB) S) H) (hS : va_S (AG G) s.heap H locs) {x1 : Int} (xo1 : isO 6 x1) {x2 : Int} (xo2 : isO 3 x2) {xv3 : Int32} {x3 : Int} (xt3 : xv3.toInt = x3) (hl : lv_has ls 5 [(1, .ref (G.2.2 (x1).toNat)), (2, .ref (G.2.2 (x2).toNat)), (3, .int xv3)])  (h : wX2_kindSeen_0 S x1 x2 x3 k) : W p l e (rmF 0 0) s m args below meth c H locs 0 0 (MQ below (QcI G (injC SB) (fun r u => k r ∧ u = S)) args s 0 0 (AG G)) (F0 m 0 ls []) := by
  refine lv_aload_n C.1.1 C.1.2.1 dX2_kindSeen_0 rfl (lv_at hl 1 rfl) ?_
  refine y_getA C fl_X2_63 hw (oc_of SB xo2) rfl (o := 1) rfl dX2_kindSeen_1 ?_
  refine lv_iload_n C.1.1 C.1.2.1 dX2_kindSeen_4 rfl (lv_at hl 2 rfl) ?_
  obtain ⟨b2, h⟩ := h
  refine y_iald C hw (ac_3_5 SB xo2) xt3 b2 dX2_kindSeen_5 (fun v2 t2 => ?_)
  obtain ⟨x_3, e3⟩ : ∃ z : Int, z = S (x2 + 1) x3 := ⟨_, rfl⟩
  have h := h x_3 e3
  have t3 := t2.trans e3.symm
  refine lv_istore (lv' := [(4, .int v2), (1, .ref (G.2.2 (x1).toNat)), (2, .ref (G.2.2 (x2).toNat)), (3, .int xv3)]) C.1.1 C.1.2.1 dX2_kindSeen_6 hl (by decide) rfl (fun ls hl => ?_)
  refine lv_iload C.1.1 C.1.2.1 dX2_kindSeen_8 (lv_at hl 0 rfl) ?_
  refine y_bipush C dX2_kindSeen_10 ⟨by decide, by decide⟩ (fun v4 t4 => ?_)
  refine y_icmp_lt C t3 t4 dX2_kindSeen_12 (tgt := 35) (by decide) (fun c5 => ?_) (fun c5 => ?_)
  · have h := h.1 c5
    refine lv_iload C.1.1 C.1.2.1 dX2_kindSeen_35 (lv_at hl 0 rfl) ?_
    exact y_iret C hw hS t3 ⟨h, rfl⟩ dX2_kindSeen_37
  · have h := h.2 c5
    refine lv_aload_n C.1.1 C.1.2.1 dX2_kindSeen_15 rfl (lv_at hl 1 rfl) ?_
    refine y_getA C fl_X2_66 hw (oc_of SB xo1) rfl (o := 5) rfl dX2_kindSeen_16 ?_
    refine lv_aload_n C.1.1 C.1.2.1 dX2_kindSeen_19 rfl (lv_at hl 2 rfl) ?_
    refine y_getI C fl_X2_69 hw (oc_of SB xo2) rfl dX2_kindSeen_20 (fun v7 t7 => ?_)
    refine y_iconst C dX2_kindSeen_23 ⟨by decide, by decide⟩ (fun v8 t8 => ?_)
    refine y_imul C t7 t8 dX2_kindSeen_24 (fun v9 t9 => ?_)
    refine lv_iload C.1.1 C.1.2.1 dX2_kindSeen_25 (lv_at hl 0 rfl) ?_
    refine y_iadd C t9 t3 dX2_kindSeen_27 (fun v10 t10 => ?_)
    refine y_bipush C dX2_kindSeen_28 ⟨by decide, by decide⟩ (fun v11 t11 => ?_)
    refine y_isub C t10 t11 dX2_kindSeen_30 (fun v12 t12 => ?_)
    obtain ⟨b13, h⟩ := h
    refine y_iald C hw (ac_6_15 SB xo1) t12 b13 dX2_kindSeen_31 (fun v13 t13 => ?_)
    refine lv_goto (tgt := 37) C.1.1 C.1.2.1 dX2_kindSeen_32 (by decide) ?_
    exact y_iret C hw hS t13 ⟨h, rfl⟩ dX2_kindSeen_37
theorem kX2_kindSeen (l : Launch) (G : GG) (SB S : St) {x0 : Int} (xo0 : isO 2 x0) {x1 : Int} (xo1 : isO 6 x1) {x2 : Int} (xo2 : isO 3 x2) {xv3 : Int32} {x3 : Int} (xt3 : xv3.toInt = x3) {k : Int → Prop} (h : wX2_kindSeen S x0 x1 x2 x3 k) : CnI l yX2_kindSeen cX2_kindSeen 5 (some .int) 0 0 G (injC SB) [.ref (G.2.2 (x0).toNat), .ref (G.2.2 (x1).toNat), .ref (G.2.2 (x2).toNat), .int xv3] S (fun r u => k r ∧ u = S) :=
  cn_body (by decide +kernel) (Nat.le_of_ble_eq_true rfl) (fun p e s m args below meth c ls C hw hl => uX2_kindSeen_0 C hw va_S.rf xo1 xo2 xt3 (lv_sub hl [1, 2, 3] rfl) h)
set_option maxHeartbeats 4000000 in
set_option maxRecDepth 10000 in
theorem uX3_isFree_0 {p : Program} {l : Launch} {e : Env} {s : State} {m : MethodId} {args : Array Value} {below : List Frame} {meth : Method} {c : Code} {G : GG} {SB : St} (C : Cx p s m args meth c G RX3 cX3_isFree 1 (some .boolean)) {S : St} {H : Heap} {locs : List Loc} {ls : Array Slot}  {k : Int → Prop} (hw : Wd G ((injC SB) S) H) (hS : va_S (AG G) s.heap H locs) {x0 : Int} (xo0 : isO 3 x0) (hl : lv_has ls 1 [(0, .ref (G.2.2 (x0).toNat))])  (h : wX3_isFree_0 S x0 k) : W p l e (rmF 0 0) s m args below meth c H locs 0 0 (MQ below (QcI G (injC SB) (fun r u => k r ∧ u = S)) args s 0 0 (AG G)) (F0 m 0 ls []) := by
  refine lv_aload_n C.1.1 C.1.2.1 dX3_isFree_0 rfl (lv_at hl 0 rfl) ?_
  refine y_getI C fl_X3_26 hw (oc_of SB xo0) rfl dX3_isFree_1 (fun v1 t1 => ?_)
  refine y_if_eq C t1 dX3_isFree_4 (tgt := 19) (by decide) (fun c2 => ?_) (fun c2 => ?_)
  · have h := h.1 c2
    refine y_iconst C dX3_isFree_19 ⟨by decide, by decide⟩ (fun v3 t3 => ?_)
    exact y_zret C hw hS t3 (Or.inl rfl) ⟨h, rfl⟩ dX3_isFree_20
  · have h := h.2 c2
    refine lv_aload_n C.1.1 C.1.2.1 dX3_isFree_7 rfl (lv_at hl 0 rfl) ?_
    refine y_getI C fl_X3_29 hw (oc_of SB xo0) rfl dX3_isFree_8 (fun v4 t4 => ?_)
    refine y_iconst C dX3_isFree_11 ⟨by decide, by decide⟩ (fun v5 t5 => ?_)
    refine y_icmp_eq C t4 t5 dX3_isFree_12 (tgt := 19) (by decide) (fun c6 => ?_) (fun c6 => ?_)
    · have h := h.1 c6
      refine y_iconst C dX3_isFree_19 ⟨by decide, by decide⟩ (fun v7 t7 => ?_)
      exact y_zret C hw hS t7 (Or.inl rfl) ⟨h, rfl⟩ dX3_isFree_20
    · have h := h.2 c6
      refine y_iconst C dX3_isFree_15 ⟨by decide, by decide⟩ (fun v8 t8 => ?_)
      refine lv_goto (tgt := 20) C.1.1 C.1.2.1 dX3_isFree_16 (by decide) ?_
      exact y_zret C hw hS t8 (Or.inr rfl) ⟨h, rfl⟩ dX3_isFree_20
theorem kX3_isFree (l : Launch) (G : GG) (SB S : St) {x0 : Int} (xo0 : isO 3 x0) {k : Int → Prop} (h : wX3_isFree S x0 k) : CnI l yX3_isFree cX3_isFree 1 (some .boolean) 0 0 G (injC SB) [.ref (G.2.2 (x0).toNat)] S (fun r u => k r ∧ u = S) :=
  cn_body (by decide +kernel) (Nat.le_of_ble_eq_true rfl) (fun p e s m args below meth c ls C hw hl => uX3_isFree_0 C hw va_S.rf xo0 (lv_sub hl [0] rfl) h)
set_option maxHeartbeats 4000000 in
set_option maxRecDepth 10000 in
theorem uX2_samePackage_0 {p : Program} {l : Launch} {e : Env} {s : State} {m : MethodId} {args : Array Value} {below : List Frame} {meth : Method} {c : Code} {G : GG} {SB : St} (C : Cx p s m args meth c G RX2 cX2_samePackage 3 (some .boolean)) {S : St} {H : Heap} {locs : List Loc} {ls : Array Slot}  {k : Int → Prop} (hw : Wd G ((injC SB) S) H) (hS : va_S (AG G) s.heap H locs) {x0 : Int} (xo0 : isO 2 x0) {xv1 : Int32} {x1 : Int} (xt1 : xv1.toInt = x1) {xv2 : Int32} {x2 : Int} (xt2 : xv2.toInt = x2) (hl : lv_has ls 3 [(0, .ref (G.2.2 (x0).toNat)), (1, .int xv1), (2, .int xv2)])  (h : wX2_samePackage_0 S x0 x1 x2 k) : W p l e (rmF 0 0) s m args below meth c H locs 0 0 (MQ below (QcI G (injC SB) (fun r u => k r ∧ u = S)) args s 0 0 (AG G)) (F0 m 0 ls []) := by
  refine lv_aload_n C.1.1 C.1.2.1 dX2_samePackage_0 rfl (lv_at hl 0 rfl) ?_
  refine y_getA C fl_X2_11 hw (oc_of SB xo0) rfl (o := 1) rfl dX2_samePackage_1 ?_
  refine lv_iload_n C.1.1 C.1.2.1 dX2_samePackage_4 rfl (lv_at hl 1 rfl) ?_
  obtain ⟨b2, h⟩ := h
  obtain ⟨x_2, e2⟩ : ∃ z : Int, z = x0 + 6 + 6 * x1 := ⟨_, rfl⟩
  have h := h x_2 e2
  have o2 : isO 6 x_2 := isO_ty xo0 b2 e2
  refine y_tyO C hw xo0 xt1 b2 e2 dX2_samePackage_5 ?_
  refine y_getI C fl_X2_54 hw (oc_of SB o2) rfl dX2_samePackage_6 (fun v3 t3 => ?_)
  refine lv_aload_n C.1.1 C.1.2.1 dX2_samePackage_9 rfl (lv_at hl 0 rfl) ?_
  refine y_getA C fl_X2_11 hw (oc_of SB xo0) rfl (o := 1) rfl dX2_samePackage_10 ?_
  refine lv_iload_n C.1.1 C.1.2.1 dX2_samePackage_13 rfl (lv_at hl 2 rfl) ?_
  obtain ⟨b5, h⟩ := h
  obtain ⟨x_5, e5⟩ : ∃ z : Int, z = x0 + 6 + 6 * x2 := ⟨_, rfl⟩
  have h := h x_5 e5
  have o5 : isO 6 x_5 := isO_ty xo0 b5 e5
  refine y_tyO C hw xo0 xt2 b5 e5 dX2_samePackage_14 ?_
  refine y_getI C fl_X2_54 hw (oc_of SB o5) rfl dX2_samePackage_15 (fun v6 t6 => ?_)
  refine y_icmp_ne C t3 t6 dX2_samePackage_18 (tgt := 46) (by decide) (fun c7 => ?_) (fun c7 => ?_)
  · have h := h.1 c7
    refine y_iconst C dX2_samePackage_46 ⟨by decide, by decide⟩ (fun v8 t8 => ?_)
    exact y_zret C hw hS t8 (Or.inl rfl) ⟨h, rfl⟩ dX2_samePackage_47
  · have h := h.2 c7
    refine lv_aload_n C.1.1 C.1.2.1 dX2_samePackage_21 rfl (lv_at hl 0 rfl) ?_
    refine y_getA C fl_X2_11 hw (oc_of SB xo0) rfl (o := 1) rfl dX2_samePackage_22 ?_
    refine lv_iload_n C.1.1 C.1.2.1 dX2_samePackage_25 rfl (lv_at hl 1 rfl) ?_
    obtain ⟨b10, h⟩ := h
    obtain ⟨x_10, e10⟩ : ∃ z : Int, z = x0 + 6 + 6 * x1 := ⟨_, rfl⟩
    have h := h x_10 e10
    have o10 : isO 6 x_10 := isO_ty xo0 b10 e10
    refine y_tyO C hw xo0 xt1 b10 e10 dX2_samePackage_26 ?_
    refine y_getI C fl_X2_57 hw (oc_of SB o10) rfl dX2_samePackage_27 (fun v11 t11 => ?_)
    refine lv_aload_n C.1.1 C.1.2.1 dX2_samePackage_30 rfl (lv_at hl 0 rfl) ?_
    refine y_getA C fl_X2_11 hw (oc_of SB xo0) rfl (o := 1) rfl dX2_samePackage_31 ?_
    refine lv_iload_n C.1.1 C.1.2.1 dX2_samePackage_34 rfl (lv_at hl 2 rfl) ?_
    obtain ⟨b13, h⟩ := h
    obtain ⟨x_13, e13⟩ : ∃ z : Int, z = x0 + 6 + 6 * x2 := ⟨_, rfl⟩
    have h := h x_13 e13
    have o13 : isO 6 x_13 := isO_ty xo0 b13 e13
    refine y_tyO C hw xo0 xt2 b13 e13 dX2_samePackage_35 ?_
    refine y_getI C fl_X2_57 hw (oc_of SB o13) rfl dX2_samePackage_36 (fun v14 t14 => ?_)
    refine y_icmp_ne C t11 t14 dX2_samePackage_39 (tgt := 46) (by decide) (fun c15 => ?_) (fun c15 => ?_)
    · have h := h.1 c15
      refine y_iconst C dX2_samePackage_46 ⟨by decide, by decide⟩ (fun v16 t16 => ?_)
      exact y_zret C hw hS t16 (Or.inl rfl) ⟨h, rfl⟩ dX2_samePackage_47
    · have h := h.2 c15
      refine y_iconst C dX2_samePackage_42 ⟨by decide, by decide⟩ (fun v17 t17 => ?_)
      refine lv_goto (tgt := 47) C.1.1 C.1.2.1 dX2_samePackage_43 (by decide) ?_
      exact y_zret C hw hS t17 (Or.inr rfl) ⟨h, rfl⟩ dX2_samePackage_47
theorem kX2_samePackage (l : Launch) (G : GG) (SB S : St) {x0 : Int} (xo0 : isO 2 x0) {xv1 : Int32} {x1 : Int} (xt1 : xv1.toInt = x1) {xv2 : Int32} {x2 : Int} (xt2 : xv2.toInt = x2) {k : Int → Prop} (h : wX2_samePackage S x0 x1 x2 k) : CnI l yX2_samePackage cX2_samePackage 3 (some .boolean) 0 0 G (injC SB) [.ref (G.2.2 (x0).toNat), .int xv1, .int xv2] S (fun r u => k r ∧ u = S) :=
  cn_body (by decide +kernel) (Nat.le_of_ble_eq_true rfl) (fun p e s m args below meth c ls C hw hl => uX2_samePackage_0 C hw va_S.rf xo0 xt1 xt2 (lv_sub hl [0, 1, 2] rfl) h)
set_option maxHeartbeats 4000000 in
set_option maxRecDepth 10000 in
theorem uX2_hasOverride_0 {p : Program} {l : Launch} {e : Env} {s : State} {m : MethodId} {args : Array Value} {below : List Frame} {meth : Method} {c : Code} {G : GG} {SB : St} (C : Cx p s m args meth c G RX2 cX2_hasOverride 3 (some .boolean)) {S : St} {H : Heap} {locs : List Loc} {ls : Array Slot}  {k : Int → Prop} (hw : Wd G ((injC SB) S) H) (hS : va_S (AG G) s.heap H locs) {x0 : Int} (xo0 : isO 2 x0) {xv1 : Int32} {x1 : Int} (xt1 : xv1.toInt = x1) {xv2 : Int32} {x2 : Int} (xt2 : xv2.toInt = x2) (hl : lv_has ls 3 [(0, .ref (G.2.2 (x0).toNat)), (1, .int xv1), (2, .int xv2)])  (h : wX2_hasOverride_0 S x0 x1 x2 k) : W p l e (rmF 0 0) s m args below meth c H locs 0 0 (MQ below (QcI G (injC SB) (fun r u => k r ∧ u = S)) args s 0 0 (AG G)) (F0 m 0 ls []) := by
  refine lv_aload_n C.1.1 C.1.2.1 dX2_hasOverride_0 rfl (lv_at hl 0 rfl) ?_
  refine y_getA C fl_X2_23 hw (oc_of SB xo0) rfl (o := 3) rfl dX2_hasOverride_1 ?_
  refine lv_iload_n C.1.1 C.1.2.1 dX2_hasOverride_4 rfl (lv_at hl 1 rfl) ?_
  refine y_iconst C dX2_hasOverride_5 ⟨by decide, by decide⟩ (fun v2 t2 => ?_)
  refine y_imul C xt1 t2 dX2_hasOverride_6 (fun v3 t3 => ?_)
  refine lv_iload_n C.1.1 C.1.2.1 dX2_hasOverride_7 rfl (lv_at hl 2 rfl) ?_
  refine y_bipush C dX2_hasOverride_8 ⟨by decide, by decide⟩ (fun v4 t4 => ?_)
  refine y_ishr C xt2 t4 dX2_hasOverride_10 (fun v5 t5 => ?_)
  refine y_iadd C t3 t5 dX2_hasOverride_11 (fun v6 t6 => ?_)
  obtain ⟨b7, h⟩ := h
  refine y_lald C hw (ac_2_4 SB xo0) t6 b7 dX2_hasOverride_12 (fun v7 t7 => ?_)
  refine lv_iload_n C.1.1 C.1.2.1 dX2_hasOverride_13 rfl (lv_at hl 2 rfl) ?_
  refine y_bipush C dX2_hasOverride_14 ⟨by decide, by decide⟩ (fun v8 t8 => ?_)
  refine y_iand C xt2 t8 dX2_hasOverride_16 (fun v9 t9 => ?_)
  refine y_lushr C t7 t9 dX2_hasOverride_17 (fun v10 t10 => ?_)
  refine y_lconst1 C dX2_hasOverride_18 (fun v11 t11 => ?_)
  refine y_land C t10 t11 dX2_hasOverride_19 (fun v12 t12 => ?_)
  refine y_lconst0 C dX2_hasOverride_20 (fun v13 t13 => ?_)
  refine y_lcmp C t12 t13 dX2_hasOverride_21 (fun v14 t14 => ?_)
  refine y_if_eq C t14 dX2_hasOverride_22 (tgt := 29) (by decide) (fun c15 => ?_) (fun c15 => ?_)
  · have c15 := cmp_eq.mp c15
    have h := h.1 c15
    refine y_iconst C dX2_hasOverride_29 ⟨by decide, by decide⟩ (fun v16 t16 => ?_)
    exact y_zret C hw hS t16 (Or.inl rfl) ⟨h, rfl⟩ dX2_hasOverride_30
  · have c15 := cmp_ne.mp c15
    have h := h.2 c15
    refine y_iconst C dX2_hasOverride_25 ⟨by decide, by decide⟩ (fun v17 t17 => ?_)
    refine lv_goto (tgt := 30) C.1.1 C.1.2.1 dX2_hasOverride_26 (by decide) ?_
    exact y_zret C hw hS t17 (Or.inr rfl) ⟨h, rfl⟩ dX2_hasOverride_30
theorem kX2_hasOverride (l : Launch) (G : GG) (SB S : St) {x0 : Int} (xo0 : isO 2 x0) {xv1 : Int32} {x1 : Int} (xt1 : xv1.toInt = x1) {xv2 : Int32} {x2 : Int} (xt2 : xv2.toInt = x2) {k : Int → Prop} (h : wX2_hasOverride S x0 x1 x2 k) : CnI l yX2_hasOverride cX2_hasOverride 3 (some .boolean) 0 0 G (injC SB) [.ref (G.2.2 (x0).toNat), .int xv1, .int xv2] S (fun r u => k r ∧ u = S) :=
  cn_body (by decide +kernel) (Nat.le_of_ble_eq_true rfl) (fun p e s m args below meth c ls C hw hl => uX2_hasOverride_0 C hw va_S.rf xo0 xt1 xt2 (lv_sub hl [0, 1, 2] rfl) h)
set_option maxHeartbeats 4000000 in
set_option maxRecDepth 10000 in
theorem uX2_setOverride_0 {p : Program} {l : Launch} {e : Env} {s : State} {m : MethodId} {args : Array Value} {below : List Frame} {meth : Method} {c : Code} {G : GG} {SB : St} (C : Cx p s m args meth c G RX2 cX2_setOverride 3 none) {S : St} {H : Heap} {locs : List Loc} {ls : Array Slot}  {k : St → Prop} (hw : Wd G ((injC SB) S) H) (hS : va_S (AG G) s.heap H locs) {x0 : Int} (xo0 : isO 2 x0) {xv1 : Int32} {x1 : Int} (xt1 : xv1.toInt = x1) {xv2 : Int32} {x2 : Int} (xt2 : xv2.toInt = x2) (hl : lv_has ls 3 [(0, .ref (G.2.2 (x0).toNat)), (1, .int xv1), (2, .int xv2)])  (h : wX2_setOverride_0 S x0 x1 x2 k) : W p l e (rmF 0 0) s m args below meth c H locs 0 0 (MQ below (QcV G (injC SB) k) args s 0 0 (AG G)) (F0 m 0 ls []) := by
  refine lv_aload_n C.1.1 C.1.2.1 dX2_setOverride_0 rfl (lv_at hl 0 rfl) ?_
  refine y_getA C fl_X2_23 hw (oc_of SB xo0) rfl (o := 3) rfl dX2_setOverride_1 ?_
  refine lv_iload_n C.1.1 C.1.2.1 dX2_setOverride_4 rfl (lv_at hl 1 rfl) ?_
  refine y_iconst C dX2_setOverride_5 ⟨by decide, by decide⟩ (fun v2 t2 => ?_)
  refine y_imul C xt1 t2 dX2_setOverride_6 (fun v3 t3 => ?_)
  refine lv_iload_n C.1.1 C.1.2.1 dX2_setOverride_7 rfl (lv_at hl 2 rfl) ?_
  refine y_bipush C dX2_setOverride_8 ⟨by decide, by decide⟩ (fun v4 t4 => ?_)
  refine y_ishr C xt2 t4 dX2_setOverride_10 (fun v5 t5 => ?_)
  refine y_iadd C t3 t5 dX2_setOverride_11 (fun v6 t6 => ?_)
  refine lv_dup2_11 C.1.1 C.1.2.1 dX2_setOverride_12 rfl rfl ?_
  obtain ⟨b7, h⟩ := h
  refine y_lald C hw (ac_2_4 SB xo0) t6 b7 dX2_setOverride_13 (fun v7 t7 => ?_)
  refine y_lconst1 C dX2_setOverride_14 (fun v8 t8 => ?_)
  refine lv_iload_n C.1.1 C.1.2.1 dX2_setOverride_15 rfl (lv_at hl 2 rfl) ?_
  refine y_bipush C dX2_setOverride_16 ⟨by decide, by decide⟩ (fun v9 t9 => ?_)
  refine y_iand C xt2 t9 dX2_setOverride_18 (fun v10 t10 => ?_)
  refine y_lshl C t8 t10 dX2_setOverride_19 (fun v11 t11 => ?_)
  refine y_lor C t7 t11 dX2_setOverride_20 (fun v12 t12 => ?_)
  obtain ⟨b13, h⟩ := h
  obtain ⟨S_13, e13⟩ : ∃ z : St, z = up S (x0 + 3) (w32 (w32 (x1 * 2) + shr32 x2 6)) (or64 (S (x0 + 3) (w32 (w32 (x1 * 2) + shr32 x2 6))) (shl64 1 (and32 x2 63))) := ⟨_, rfl⟩
  have h := h S_13 e13
  refine y_last C hw hS (ac_2_4 SB xo0) t6 t12 b13 dX2_setOverride_21 (fun H locs hw hS => ?_)
  have hw : Wd G ((injC SB) S_13) H := by rw [e13]; exact hw
  exact y_vret C hw hS h dX2_setOverride_22
theorem kX2_setOverride (l : Launch) (G : GG) (SB S : St) {x0 : Int} (xo0 : isO 2 x0) {xv1 : Int32} {x1 : Int} (xt1 : xv1.toInt = x1) {xv2 : Int32} {x2 : Int} (xt2 : xv2.toInt = x2) {k : St → Prop} (h : wX2_setOverride S x0 x1 x2 k) : CnV l yX2_setOverride cX2_setOverride 3 none 0 0 G (injC SB) [.ref (G.2.2 (x0).toNat), .int xv1, .int xv2] S k :=
  cn_body (by decide +kernel) (Nat.le_of_ble_eq_true rfl) (fun p e s m args below meth c ls C hw hl => uX2_setOverride_0 C hw va_S.rf xo0 xt1 xt2 (lv_sub hl [0, 1, 2] rfl) h)
set_option maxHeartbeats 4000000 in
set_option maxRecDepth 10000 in
theorem uX3_isOwn_0 {p : Program} {l : Launch} {e : Env} {s : State} {m : MethodId} {args : Array Value} {below : List Frame} {meth : Method} {c : Code} {G : GG} {SB : St} (C : Cx p s m args meth c G RX3 cX3_isOwn 1 (some .boolean)) {S : St} {H : Heap} {locs : List Loc} {ls : Array Slot}  {k : Int → Prop} (hw : Wd G ((injC SB) S) H) (hS : va_S (AG G) s.heap H locs) {x0 : Int} (xo0 : isO 3 x0) (hl : lv_has ls 1 [(0, .ref (G.2.2 (x0).toNat))])  (h : wX3_isOwn_0 S x0 k) : W p l e (rmF 0 0) s m args below meth c H locs 0 0 (MQ below (QcI G (injC SB) (fun r u => k r ∧ u = S)) args s 0 0 (AG G)) (F0 m 0 ls []) := by
  refine lv_aload_n C.1.1 C.1.2.1 dX3_isOwn_0 rfl (lv_at hl 0 rfl) ?_
  refine y_getI C fl_X3_26 hw (oc_of SB xo0) rfl dX3_isOwn_1 (fun v1 t1 => ?_)
  refine y_if_ne C t1 dX3_isOwn_4 (tgt := 11) (by decide) (fun c2 => ?_) (fun c2 => ?_)
  · have h := h.1 c2
    refine y_iconst C dX3_isOwn_11 ⟨by decide, by decide⟩ (fun v3 t3 => ?_)
    exact y_zret C hw hS t3 (Or.inl rfl) ⟨h, rfl⟩ dX3_isOwn_12
  · have h := h.2 c2
    refine y_iconst C dX3_isOwn_7 ⟨by decide, by decide⟩ (fun v4 t4 => ?_)
    refine lv_goto (tgt := 12) C.1.1 C.1.2.1 dX3_isOwn_8 (by decide) ?_
    exact y_zret C hw hS t4 (Or.inr rfl) ⟨h, rfl⟩ dX3_isOwn_12
theorem kX3_isOwn (l : Launch) (G : GG) (SB S : St) {x0 : Int} (xo0 : isO 3 x0) {k : Int → Prop} (h : wX3_isOwn S x0 k) : CnI l yX3_isOwn cX3_isOwn 1 (some .boolean) 0 0 G (injC SB) [.ref (G.2.2 (x0).toNat)] S (fun r u => k r ∧ u = S) :=
  cn_body (by decide +kernel) (Nat.le_of_ble_eq_true rfl) (fun p e s m args below meth c ls C hw hl => uX3_isOwn_0 C hw va_S.rf xo0 (lv_sub hl [0] rfl) h)
set_option maxHeartbeats 4000000 in
set_option maxRecDepth 10000 in
theorem uX3_isStatic_0 {p : Program} {l : Launch} {e : Env} {s : State} {m : MethodId} {args : Array Value} {below : List Frame} {meth : Method} {c : Code} {G : GG} {SB : St} (C : Cx p s m args meth c G RX3 cX3_isStatic 1 (some .boolean)) {S : St} {H : Heap} {locs : List Loc} {ls : Array Slot}  {k : Int → Prop} (hw : Wd G ((injC SB) S) H) (hS : va_S (AG G) s.heap H locs) {x0 : Int} (xo0 : isO 3 x0) (hl : lv_has ls 1 [(0, .ref (G.2.2 (x0).toNat))])  (h : wX3_isStatic_0 S x0 k) : W p l e (rmF 0 0) s m args below meth c H locs 0 0 (MQ below (QcI G (injC SB) (fun r u => k r ∧ u = S)) args s 0 0 (AG G)) (F0 m 0 ls []) := by
  refine lv_aload_n C.1.1 C.1.2.1 dX3_isStatic_0 rfl (lv_at hl 0 rfl) ?_
  refine y_getI C fl_X3_29 hw (oc_of SB xo0) rfl dX3_isStatic_1 (fun v1 t1 => ?_)
  refine y_iconst C dX3_isStatic_4 ⟨by decide, by decide⟩ (fun v2 t2 => ?_)
  refine y_icmp_ne C t1 t2 dX3_isStatic_5 (tgt := 12) (by decide) (fun c3 => ?_) (fun c3 => ?_)
  · have h := h.1 c3
    refine y_iconst C dX3_isStatic_12 ⟨by decide, by decide⟩ (fun v4 t4 => ?_)
    exact y_zret C hw hS t4 (Or.inl rfl) ⟨h, rfl⟩ dX3_isStatic_13
  · have h := h.2 c3
    refine y_iconst C dX3_isStatic_8 ⟨by decide, by decide⟩ (fun v5 t5 => ?_)
    refine lv_goto (tgt := 13) C.1.1 C.1.2.1 dX3_isStatic_9 (by decide) ?_
    exact y_zret C hw hS t5 (Or.inr rfl) ⟨h, rfl⟩ dX3_isStatic_13
theorem kX3_isStatic (l : Launch) (G : GG) (SB S : St) {x0 : Int} (xo0 : isO 3 x0) {k : Int → Prop} (h : wX3_isStatic S x0 k) : CnI l yX3_isStatic cX3_isStatic 1 (some .boolean) 0 0 G (injC SB) [.ref (G.2.2 (x0).toNat)] S (fun r u => k r ∧ u = S) :=
  cn_body (by decide +kernel) (Nat.le_of_ble_eq_true rfl) (fun p e s m args below meth c ls C hw hl => uX3_isStatic_0 C hw va_S.rf xo0 (lv_sub hl [0] rfl) h)
set_option maxHeartbeats 4000000 in
set_option maxRecDepth 10000 in
theorem uX2_methodIn_62_b {p : Program} {l : Launch} {e : Env} {s : State} {m : MethodId} {args : Array Value} {below : List Frame} {meth : Method} {c : Code} {G : GG} {SB : St} (C : Cx p s m args meth c G RX2 cX2_methodIn 6 (some .int)) {S : St} {H : Heap} {locs : List Loc} {ls : Array Slot}  {P62 : Int → Prop} {k : Int → Prop} (hw : Wd G ((injC SB) S) H) (hS : va_S (AG G) s.heap H locs) {x0 : Int} (xo0 : isO 2 x0) {xv2 : Int32} {x2 : Int} (xt2 : xv2.toInt = x2) {xv4 : Int32} {x4 : Int} (xt4 : xv4.toInt = x4) {xv5 : Int32} {x5 : Int} (xt5 : xv5.toInt = x5) (hl : lv_has ls 6 [(0, .ref (G.2.2 (x0).toNat)), (2, .int xv2), (4, .int xv4), (5, .int xv5)])  (hP62 : ∀ {H : Heap} {locs : List Loc} {ls : Array Slot} {yv5 : Int32} {y5 : Int}, yv5.toInt = y5 → Wd G ((injC SB) S) H → va_S (AG G) s.heap H locs → lv_has ls 6 [(0, .ref (G.2.2 (x0).toNat)), (2, .int xv2), (4, .int xv4), (5, .int yv5)] → P62 y5 → W p l e (rmF 0 0) s m args below meth c H locs 0 0 (MQ below (QcI G (injC SB) (fun r u => k r ∧ u = S)) args s 0 0 (AG G)) (F0 m 62 ls [])) (h : wX2_methodIn_62_b S x0 x2 x4 x5 P62 k) : W p l e (rmF 0 0) s m args below meth c H locs 0 0 (MQ below (QcI G (injC SB) (fun r u => k r ∧ u = S)) args s 0 0 (AG G)) (F0 m 62 ls []) := by
  refine lv_iload C.1.1 C.1.2.1 dX2_methodIn_62 (lv_at hl 3 rfl) ?_
  refine lv_iload C.1.1 C.1.2.1 dX2_methodIn_64 (lv_at hl 2 rfl) ?_
  refine y_icmp_ge C xt5 xt4 dX2_methodIn_66 (tgt := 101) (by decide) (fun c1 => ?_) (fun c1 => ?_)
  · have h := h.1 c1
    refine y_iconst C dX2_methodIn_101 ⟨by decide, by decide⟩ (fun v2 t2 => ?_)
    exact y_iret C hw hS t2 ⟨h, rfl⟩ dX2_methodIn_102
  · have h := h.2 c1
    refine lv_aload_n C.1.1 C.1.2.1 dX2_methodIn_69 rfl (lv_at hl 0 rfl) ?_
    refine y_getA C fl_X2_19 hw (oc_of SB xo0) rfl (o := 2) rfl dX2_methodIn_70 ?_
    refine lv_aload_n C.1.1 C.1.2.1 dX2_methodIn_73 rfl (lv_at hl 0 rfl) ?_
    refine y_getA C fl_X2_31 hw (oc_of SB xo0) rfl (o := 5) rfl dX2_methodIn_74 ?_
    refine lv_iload C.1.1 C.1.2.1 dX2_methodIn_77 (lv_at hl 3 rfl) ?_
    obtain ⟨b5, h⟩ := h
    refine y_iald C hw (ac_2_6 SB xo0) xt5 b5 dX2_methodIn_79 (fun v5 t5 => ?_)
    obtain ⟨b6, h⟩ := h
    obtain ⟨x_6, e6⟩ : ∃ z : Int, z = x0 + 150 + 3 * (S (x0 + 5) x5) := ⟨_, rfl⟩
    have h := h x_6 e6
    have o6 : isO 3 x_6 := isO_mb xo0 b6 e6
    refine y_mbO C hw xo0 t5 b6 e6 dX2_methodIn_80 ?_
    refine y_getI C fl_X2_72 hw (oc_of SB o6) rfl dX2_methodIn_81 (fun v7 t7 => ?_)
    refine lv_iload_n C.1.1 C.1.2.1 dX2_methodIn_84 rfl (lv_at hl 1 rfl) ?_
    refine y_icmp_ne C t7 xt2 dX2_methodIn_85 (tgt := 95) (by decide) (fun c8 => ?_) (fun c8 => ?_)
    · have h := h.1 c8
      obtain ⟨x_9, e9⟩ : ∃ z : Int, z = w32 (x5 + 1) := ⟨_, rfl⟩
      have h := h x_9 e9
      obtain ⟨v9, t9, g9⟩ : ∃ z : Int32, z.toInt = x_9 ∧ xv5 + Int32.ofInt 1 = z := ⟨_, (ti_inc xt5 ⟨by decide, by decide⟩).trans e9.symm, rfl⟩
      refine lv_iinc (v := v9) (lv' := [(5, .int v9), (0, .ref (G.2.2 (x0).toNat)), (2, .int xv2), (4, .int xv4)]) C.1.1 C.1.2.1 dX2_methodIn_95 hl (k := 3) rfl g9 (by decide) rfl (fun ls hl => ?_)
      refine lv_goto (tgt := 62) C.1.1 C.1.2.1 dX2_methodIn_98 (by decide) ?_
      exact hP62 t9 hw hS (lv_sub hl [1, 2, 3, 0] rfl) h
    · have h := h.2 c8
      refine y_sipush C dX2_methodIn_88 ⟨by decide, by decide⟩ (fun v10 t10 => ?_)
      refine lv_iload C.1.1 C.1.2.1 dX2_methodIn_91 (lv_at hl 3 rfl) ?_
      refine y_iadd C t10 xt5 dX2_methodIn_93 (fun v11 t11 => ?_)
      exact y_iret C hw hS t11 ⟨h, rfl⟩ dX2_methodIn_94
set_option maxHeartbeats 4000000 in
set_option maxRecDepth 10000 in
theorem uX2_methodIn_62 {p : Program} {l : Launch} {e : Env} {s : State} {m : MethodId} {args : Array Value} {below : List Frame} {meth : Method} {c : Code} {G : GG} {SB : St} (C : Cx p s m args meth c G RX2 cX2_methodIn 6 (some .int)) {S : St} {H : Heap} {locs : List Loc} {ls : Array Slot}  {k : Int → Prop} (hw : Wd G ((injC SB) S) H) (hS : va_S (AG G) s.heap H locs) {x0 : Int} (xo0 : isO 2 x0) {xv2 : Int32} {x2 : Int} (xt2 : xv2.toInt = x2) {xv4 : Int32} {x4 : Int} (xt4 : xv4.toInt = x4) {xv5 : Int32} {x5 : Int} (xt5 : xv5.toInt = x5) (hl : lv_has ls 6 [(0, .ref (G.2.2 (x0).toNat)), (2, .int xv2), (4, .int xv4), (5, .int xv5)])  (h : wX2_methodIn_62 S x0 x2 x4 x5 k) : W p l e (rmF 0 0) s m args below meth c H locs 0 0 (MQ below (QcI G (injC SB) (fun r u => k r ∧ u = S)) args s 0 0 (AG G)) (F0 m 62 ls []) := by
  have key : ∀ (n : Nat) {H : Heap} {locs : List Loc} {ls : Array Slot} {xv5 : Int32} {x5 : Int}, xv5.toInt = x5 → Wd G ((injC SB) S) H → va_S (AG G) s.heap H locs → lv_has ls 6 [(0, .ref (G.2.2 (x0).toNat)), (2, .int xv2), (4, .int xv4), (5, .int xv5)] → itP (fun (P : Int → Prop) (a : Int) => wX2_methodIn_62_b S x0 x2 x4 a (fun b0 => P (b0)) k) n (x5) → W p l e (rmF 0 0) s m args below meth c H locs 0 0 (MQ below (QcI G (injC SB) (fun r u => k r ∧ u = S)) args s 0 0 (AG G)) (F0 m 62 ls []) := by
    intro n
    induction n with
    | zero => intro H locs ls xv5 x5 xt5 hw hS hl h; exact h.elim
    | succ n ih =>
      intro H locs ls xv5 x5 xt5 hw hS hl h
      exact uX2_methodIn_62_b C hw hS xo0 xt2 xt4 xt5 hl  (P62 := fun b0 => itP _ n (b0)) (fun q0 hw hS hl h => ih q0 hw hS hl h) h
  obtain ⟨n, hn⟩ := h
  exact key n xt5 hw hS hl hn
set_option maxHeartbeats 4000000 in
set_option maxRecDepth 10000 in
theorem uX2_methodIn_16_b {p : Program} {l : Launch} {e : Env} {s : State} {m : MethodId} {args : Array Value} {below : List Frame} {meth : Method} {c : Code} {G : GG} {SB : St} (C : Cx p s m args meth c G RX2 cX2_methodIn 6 (some .int)) {S : St} {H : Heap} {locs : List Loc} {ls : Array Slot}  {P16 : Int → Prop} {k : Int → Prop} (hw : Wd G ((injC SB) S) H) (hS : va_S (AG G) s.heap H locs) {x0 : Int} (xo0 : isO 2 x0) {x1 : Int} (xo1 : isO 6 x1) {xv2 : Int32} {x2 : Int} (xt2 : xv2.toInt = x2) {xv3 : Int32} {x3 : Int} (xt3 : xv3.toInt = x3) {xv4 : Int32} {x4 : Int} (xt4 : xv4.toInt = x4) (hl : lv_has ls 6 [(0, .ref (G.2.2 (x0).toNat)), (1, .ref (G.2.2 (x1).toNat)), (2, .int xv2), (3, .int xv3), (4, .int xv4)])  (hP16 : ∀ {H : Heap} {locs : List Loc} {ls : Array Slot} {yv4 : Int32} {y4 : Int}, yv4.toInt = y4 → Wd G ((injC SB) S) H → va_S (AG G) s.heap H locs → lv_has ls 6 [(0, .ref (G.2.2 (x0).toNat)), (1, .ref (G.2.2 (x1).toNat)), (2, .int xv2), (3, .int xv3), (4, .int yv4)] → P16 y4 → W p l e (rmF 0 0) s m args below meth c H locs 0 0 (MQ below (QcI G (injC SB) (fun r u => k r ∧ u = S)) args s 0 0 (AG G)) (F0 m 16 ls [])) (h : wX2_methodIn_16_b S x0 x1 x2 x3 x4 P16 k) : W p l e (rmF 0 0) s m args below meth c H locs 0 0 (MQ below (QcI G (injC SB) (fun r u => k r ∧ u = S)) args s 0 0 (AG G)) (F0 m 16 ls []) := by
  refine lv_iload C.1.1 C.1.2.1 dX2_methodIn_16 (lv_at hl 4 rfl) ?_
  refine lv_iload_n C.1.1 C.1.2.1 dX2_methodIn_18 rfl (lv_at hl 3 rfl) ?_
  refine y_icmp_ge C xt4 xt3 dX2_methodIn_19 (tgt := 45) (by decide) (fun c1 => ?_) (fun c1 => ?_)
  · have h := h.1 c1
    refine lv_aload_n C.1.1 C.1.2.1 dX2_methodIn_45 rfl (lv_at hl 1 rfl) ?_
    refine y_getI C fl_X2_79 hw (oc_of SB xo1) rfl dX2_methodIn_46 (fun v2 t2 => ?_)
    refine lv_aload_n C.1.1 C.1.2.1 dX2_methodIn_49 rfl (lv_at hl 1 rfl) ?_
    refine y_getI C fl_X2_82 hw (oc_of SB xo1) rfl dX2_methodIn_50 (fun v3 t3 => ?_)
    refine y_iadd C t2 t3 dX2_methodIn_53 (fun v4 t4 => ?_)
    obtain ⟨x_5, e5⟩ : ∃ z : Int, z = w32 (S x1 18 + S x1 19) := ⟨_, rfl⟩
    have h := h x_5 e5
    have t5 := t4.trans e5.symm
    refine lv_istore (lv' := [(4, .int v4), (0, .ref (G.2.2 (x0).toNat)), (1, .ref (G.2.2 (x1).toNat)), (2, .int xv2), (3, .int xv3)]) C.1.1 C.1.2.1 dX2_methodIn_54 hl (by decide) rfl (fun ls hl => ?_)
    refine lv_aload_n C.1.1 C.1.2.1 dX2_methodIn_56 rfl (lv_at hl 2 rfl) ?_
    refine y_getI C fl_X2_79 hw (oc_of SB xo1) rfl dX2_methodIn_57 (fun v6 t6 => ?_)
    obtain ⟨x_7, e7⟩ : ∃ z : Int, z = S x1 18 := ⟨_, rfl⟩
    have h := h x_7 e7
    have t7 := t6.trans e7.symm
    refine lv_istore (lv' := [(5, .int v6), (4, .int v4), (0, .ref (G.2.2 (x0).toNat)), (1, .ref (G.2.2 (x1).toNat)), (2, .int xv2), (3, .int xv3)]) C.1.1 C.1.2.1 dX2_methodIn_60 hl (by decide) rfl (fun ls hl => ?_)
    exact uX2_methodIn_62 C hw hS xo0 xt2 t5 t7 (lv_sub hl [2, 4, 1, 0] rfl)  h
  · have h := h.2 c1
    refine lv_aload_n C.1.1 C.1.2.1 dX2_methodIn_22 rfl (lv_at hl 0 rfl) ?_
    refine y_getA C fl_X2_19 hw (oc_of SB xo0) rfl (o := 2) rfl dX2_methodIn_23 ?_
    refine lv_iload C.1.1 C.1.2.1 dX2_methodIn_26 (lv_at hl 4 rfl) ?_
    obtain ⟨b9, h⟩ := h
    obtain ⟨x_9, e9⟩ : ∃ z : Int, z = x0 + 150 + 3 * x4 := ⟨_, rfl⟩
    have h := h x_9 e9
    have o9 : isO 3 x_9 := isO_mb xo0 b9 e9
    refine y_mbO C hw xo0 xt4 b9 e9 dX2_methodIn_28 ?_
    refine y_getI C fl_X2_72 hw (oc_of SB o9) rfl dX2_methodIn_29 (fun v10 t10 => ?_)
    refine lv_iload_n C.1.1 C.1.2.1 dX2_methodIn_32 rfl (lv_at hl 2 rfl) ?_
    refine y_icmp_ne C t10 xt2 dX2_methodIn_33 (tgt := 39) (by decide) (fun c11 => ?_) (fun c11 => ?_)
    · have h := h.1 c11
      obtain ⟨x_12, e12⟩ : ∃ z : Int, z = w32 (x4 + 1) := ⟨_, rfl⟩
      have h := h x_12 e12
      obtain ⟨v12, t12, g12⟩ : ∃ z : Int32, z.toInt = x_12 ∧ xv4 + Int32.ofInt 1 = z := ⟨_, (ti_inc xt4 ⟨by decide, by decide⟩).trans e12.symm, rfl⟩
      refine lv_iinc (v := v12) (lv' := [(4, .int v12), (0, .ref (G.2.2 (x0).toNat)), (1, .ref (G.2.2 (x1).toNat)), (2, .int xv2), (3, .int xv3)]) C.1.1 C.1.2.1 dX2_methodIn_39 hl (k := 4) rfl g12 (by decide) rfl (fun ls hl => ?_)
      refine lv_goto (tgt := 16) C.1.1 C.1.2.1 dX2_methodIn_42 (by decide) ?_
      exact hP16 t12 hw hS (lv_sub hl [1, 2, 3, 4, 0] rfl) h
    · have h := h.2 c11
      refine lv_iload C.1.1 C.1.2.1 dX2_methodIn_36 (lv_at hl 4 rfl) ?_
      exact y_iret C hw hS xt4 ⟨h, rfl⟩ dX2_methodIn_38
set_option maxHeartbeats 4000000 in
set_option maxRecDepth 10000 in
theorem uX2_methodIn_16 {p : Program} {l : Launch} {e : Env} {s : State} {m : MethodId} {args : Array Value} {below : List Frame} {meth : Method} {c : Code} {G : GG} {SB : St} (C : Cx p s m args meth c G RX2 cX2_methodIn 6 (some .int)) {S : St} {H : Heap} {locs : List Loc} {ls : Array Slot}  {k : Int → Prop} (hw : Wd G ((injC SB) S) H) (hS : va_S (AG G) s.heap H locs) {x0 : Int} (xo0 : isO 2 x0) {x1 : Int} (xo1 : isO 6 x1) {xv2 : Int32} {x2 : Int} (xt2 : xv2.toInt = x2) {xv3 : Int32} {x3 : Int} (xt3 : xv3.toInt = x3) {xv4 : Int32} {x4 : Int} (xt4 : xv4.toInt = x4) (hl : lv_has ls 6 [(0, .ref (G.2.2 (x0).toNat)), (1, .ref (G.2.2 (x1).toNat)), (2, .int xv2), (3, .int xv3), (4, .int xv4)])  (h : wX2_methodIn_16 S x0 x1 x2 x3 x4 k) : W p l e (rmF 0 0) s m args below meth c H locs 0 0 (MQ below (QcI G (injC SB) (fun r u => k r ∧ u = S)) args s 0 0 (AG G)) (F0 m 16 ls []) := by
  have key : ∀ (n : Nat) {H : Heap} {locs : List Loc} {ls : Array Slot} {xv4 : Int32} {x4 : Int}, xv4.toInt = x4 → Wd G ((injC SB) S) H → va_S (AG G) s.heap H locs → lv_has ls 6 [(0, .ref (G.2.2 (x0).toNat)), (1, .ref (G.2.2 (x1).toNat)), (2, .int xv2), (3, .int xv3), (4, .int xv4)] → itP (fun (P : Int → Prop) (a : Int) => wX2_methodIn_16_b S x0 x1 x2 x3 a (fun b0 => P (b0)) k) n (x4) → W p l e (rmF 0 0) s m args below meth c H locs 0 0 (MQ below (QcI G (injC SB) (fun r u => k r ∧ u = S)) args s 0 0 (AG G)) (F0 m 16 ls []) := by
    intro n
    induction n with
    | zero => intro H locs ls xv4 x4 xt4 hw hS hl h; exact h.elim
    | succ n ih =>
      intro H locs ls xv4 x4 xt4 hw hS hl h
      exact uX2_methodIn_16_b C hw hS xo0 xo1 xt2 xt3 xt4 hl  (P16 := fun b0 => itP _ n (b0)) (fun q0 hw hS hl h => ih q0 hw hS hl h) h
  obtain ⟨n, hn⟩ := h
  exact key n xt4 hw hS hl hn
set_option maxHeartbeats 4000000 in
set_option maxRecDepth 10000 in
theorem uX2_methodIn_0 {p : Program} {l : Launch} {e : Env} {s : State} {m : MethodId} {args : Array Value} {below : List Frame} {meth : Method} {c : Code} {G : GG} {SB : St} (C : Cx p s m args meth c G RX2 cX2_methodIn 6 (some .int)) {S : St} {H : Heap} {locs : List Loc} {ls : Array Slot}  {k : Int → Prop} (hw : Wd G ((injC SB) S) H) (hS : va_S (AG G) s.heap H locs) {x0 : Int} (xo0 : isO 2 x0) {x1 : Int} (xo1 : isO 6 x1) {xv2 : Int32} {x2 : Int} (xt2 : xv2.toInt = x2) (hl : lv_has ls 6 [(0, .ref (G.2.2 (x0).toNat)), (1, .ref (G.2.2 (x1).toNat)), (2, .int xv2)])  (h : wX2_methodIn_0 S x0 x1 x2 k) : W p l e (rmF 0 0) s m args below meth c H locs 0 0 (MQ below (QcI G (injC SB) (fun r u => k r ∧ u = S)) args s 0 0 (AG G)) (F0 m 0 ls []) := by
  refine lv_aload_n C.1.1 C.1.2.1 dX2_methodIn_0 rfl (lv_at hl 1 rfl) ?_
  refine y_getI C fl_X2_75 hw (oc_of SB xo1) rfl dX2_methodIn_1 (fun v1 t1 => ?_)
  refine lv_aload_n C.1.1 C.1.2.1 dX2_methodIn_4 rfl (lv_at hl 1 rfl) ?_
  refine y_getI C fl_X2_78 hw (oc_of SB xo1) rfl dX2_methodIn_5 (fun v2 t2 => ?_)
  refine y_iadd C t1 t2 dX2_methodIn_8 (fun v3 t3 => ?_)
  obtain ⟨x_4, e4⟩ : ∃ z : Int, z = w32 (S x1 16 + S x1 17) := ⟨_, rfl⟩
  have h := h x_4 e4
  have t4 := t3.trans e4.symm
  refine lv_istore_n (lv' := [(3, .int v3), (0, .ref (G.2.2 (x0).toNat)), (1, .ref (G.2.2 (x1).toNat)), (2, .int xv2)]) C.1.1 C.1.2.1 dX2_methodIn_9 rfl hl (by decide) rfl (fun ls hl => ?_)
  refine lv_aload_n C.1.1 C.1.2.1 dX2_methodIn_10 rfl (lv_at hl 2 rfl) ?_
  refine y_getI C fl_X2_75 hw (oc_of SB xo1) rfl dX2_methodIn_11 (fun v5 t5 => ?_)
  obtain ⟨x_6, e6⟩ : ∃ z : Int, z = S x1 16 := ⟨_, rfl⟩
  have h := h x_6 e6
  have t6 := t5.trans e6.symm
  refine lv_istore (lv' := [(4, .int v5), (3, .int v3), (0, .ref (G.2.2 (x0).toNat)), (1, .ref (G.2.2 (x1).toNat)), (2, .int xv2)]) C.1.1 C.1.2.1 dX2_methodIn_14 hl (by decide) rfl (fun ls hl => ?_)
  exact uX2_methodIn_16 C hw hS xo0 xo1 xt2 t4 t6 (lv_sub hl [2, 3, 4, 1, 0] rfl)  h
theorem kX2_methodIn (l : Launch) (G : GG) (SB S : St) {x0 : Int} (xo0 : isO 2 x0) {x1 : Int} (xo1 : isO 6 x1) {xv2 : Int32} {x2 : Int} (xt2 : xv2.toInt = x2) {k : Int → Prop} (h : wX2_methodIn S x0 x1 x2 k) : CnI l yX2_methodIn cX2_methodIn 6 (some .int) 0 0 G (injC SB) [.ref (G.2.2 (x0).toNat), .ref (G.2.2 (x1).toNat), .int xv2] S (fun r u => k r ∧ u = S) :=
  cn_body (by decide +kernel) (Nat.le_of_ble_eq_true rfl) (fun p e s m args below meth c ls C hw hl => uX2_methodIn_0 C hw va_S.rf xo0 xo1 xt2 (lv_sub hl [0, 1, 2] rfl) h)
set_option maxHeartbeats 4000000 in
set_option maxRecDepth 10000 in
theorem uX6_isFace_0 {p : Program} {l : Launch} {e : Env} {s : State} {m : MethodId} {args : Array Value} {below : List Frame} {meth : Method} {c : Code} {G : GG} {SB : St} (C : Cx p s m args meth c G RX6 cX6_isFace 1 (some .boolean)) {S : St} {H : Heap} {locs : List Loc} {ls : Array Slot}  {k : Int → Prop} (hw : Wd G ((injC SB) S) H) (hS : va_S (AG G) s.heap H locs) {x0 : Int} (xo0 : isO 6 x0) (hl : lv_has ls 1 [(0, .ref (G.2.2 (x0).toNat))])  (h : wX6_isFace_0 S x0 k) : W p l e (rmF 0 0) s m args below meth c H locs 0 0 (MQ below (QcI G (injC SB) (fun r u => k r ∧ u = S)) args s 0 0 (AG G)) (F0 m 0 ls []) := by
  refine lv_aload_n C.1.1 C.1.2.1 dX6_isFace_0 rfl (lv_at hl 0 rfl) ?_
  refine y_getI C fl_X6_32 hw (oc_of SB xo0) rfl dX6_isFace_1 (fun v1 t1 => ?_)
  refine y_iconst C dX6_isFace_4 ⟨by decide, by decide⟩ (fun v2 t2 => ?_)
  refine y_icmp_ne C t1 t2 dX6_isFace_5 (tgt := 12) (by decide) (fun c3 => ?_) (fun c3 => ?_)
  · have h := h.1 c3
    refine y_iconst C dX6_isFace_12 ⟨by decide, by decide⟩ (fun v4 t4 => ?_)
    exact y_zret C hw hS t4 (Or.inl rfl) ⟨h, rfl⟩ dX6_isFace_13
  · have h := h.2 c3
    refine y_iconst C dX6_isFace_8 ⟨by decide, by decide⟩ (fun v5 t5 => ?_)
    refine lv_goto (tgt := 13) C.1.1 C.1.2.1 dX6_isFace_9 (by decide) ?_
    exact y_zret C hw hS t5 (Or.inr rfl) ⟨h, rfl⟩ dX6_isFace_13
theorem kX6_isFace (l : Launch) (G : GG) (SB S : St) {x0 : Int} (xo0 : isO 6 x0) {k : Int → Prop} (h : wX6_isFace S x0 k) : CnI l yX6_isFace cX6_isFace 1 (some .boolean) 0 0 G (injC SB) [.ref (G.2.2 (x0).toNat)] S (fun r u => k r ∧ u = S) :=
  cn_body (by decide +kernel) (Nat.le_of_ble_eq_true rfl) (fun p e s m args below meth c ls C hw hl => uX6_isFace_0 C hw va_S.rf xo0 (lv_sub hl [0] rfl) h)
set_option maxHeartbeats 4000000 in
set_option maxRecDepth 10000 in
theorem uX2_sameNest_0 {p : Program} {l : Launch} {e : Env} {s : State} {m : MethodId} {args : Array Value} {below : List Frame} {meth : Method} {c : Code} {G : GG} {SB : St} (C : Cx p s m args meth c G RX2 cX2_sameNest 3 (some .boolean)) {S : St} {H : Heap} {locs : List Loc} {ls : Array Slot}  {k : Int → Prop} (hw : Wd G ((injC SB) S) H) (hS : va_S (AG G) s.heap H locs) {x0 : Int} (xo0 : isO 2 x0) {xv1 : Int32} {x1 : Int} (xt1 : xv1.toInt = x1) {xv2 : Int32} {x2 : Int} (xt2 : xv2.toInt = x2) (hl : lv_has ls 3 [(0, .ref (G.2.2 (x0).toNat)), (1, .int xv1), (2, .int xv2)])  (h : wX2_sameNest_0 S x0 x1 x2 k) : W p l e (rmF 0 0) s m args below meth c H locs 0 0 (MQ below (QcI G (injC SB) (fun r u => k r ∧ u = S)) args s 0 0 (AG G)) (F0 m 0 ls []) := by
  refine lv_aload_n C.1.1 C.1.2.1 dX2_sameNest_0 rfl (lv_at hl 0 rfl) ?_
  refine y_getA C fl_X2_11 hw (oc_of SB xo0) rfl (o := 1) rfl dX2_sameNest_1 ?_
  refine lv_iload_n C.1.1 C.1.2.1 dX2_sameNest_4 rfl (lv_at hl 1 rfl) ?_
  obtain ⟨b2, h⟩ := h
  obtain ⟨x_2, e2⟩ : ∃ z : Int, z = x0 + 6 + 6 * x1 := ⟨_, rfl⟩
  have h := h x_2 e2
  have o2 : isO 6 x_2 := isO_ty xo0 b2 e2
  refine y_tyO C hw xo0 xt1 b2 e2 dX2_sameNest_5 ?_
  refine y_getI C fl_X2_60 hw (oc_of SB o2) rfl dX2_sameNest_6 (fun v3 t3 => ?_)
  refine lv_aload_n C.1.1 C.1.2.1 dX2_sameNest_9 rfl (lv_at hl 0 rfl) ?_
  refine y_getA C fl_X2_11 hw (oc_of SB xo0) rfl (o := 1) rfl dX2_sameNest_10 ?_
  refine lv_iload_n C.1.1 C.1.2.1 dX2_sameNest_13 rfl (lv_at hl 2 rfl) ?_
  obtain ⟨b5, h⟩ := h
  obtain ⟨x_5, e5⟩ : ∃ z : Int, z = x0 + 6 + 6 * x2 := ⟨_, rfl⟩
  have h := h x_5 e5
  have o5 : isO 6 x_5 := isO_ty xo0 b5 e5
  refine y_tyO C hw xo0 xt2 b5 e5 dX2_sameNest_14 ?_
  refine y_getI C fl_X2_60 hw (oc_of SB o5) rfl dX2_sameNest_15 (fun v6 t6 => ?_)
  refine y_icmp_ne C t3 t6 dX2_sameNest_18 (tgt := 25) (by decide) (fun c7 => ?_) (fun c7 => ?_)
  · have h := h.1 c7
    refine y_iconst C dX2_sameNest_25 ⟨by decide, by decide⟩ (fun v8 t8 => ?_)
    exact y_zret C hw hS t8 (Or.inl rfl) ⟨h, rfl⟩ dX2_sameNest_26
  · have h := h.2 c7
    refine y_iconst C dX2_sameNest_21 ⟨by decide, by decide⟩ (fun v9 t9 => ?_)
    refine lv_goto (tgt := 26) C.1.1 C.1.2.1 dX2_sameNest_22 (by decide) ?_
    exact y_zret C hw hS t9 (Or.inr rfl) ⟨h, rfl⟩ dX2_sameNest_26
theorem kX2_sameNest (l : Launch) (G : GG) (SB S : St) {x0 : Int} (xo0 : isO 2 x0) {xv1 : Int32} {x1 : Int} (xt1 : xv1.toInt = x1) {xv2 : Int32} {x2 : Int} (xt2 : xv2.toInt = x2) {k : Int → Prop} (h : wX2_sameNest S x0 x1 x2 k) : CnI l yX2_sameNest cX2_sameNest 3 (some .boolean) 0 0 G (injC SB) [.ref (G.2.2 (x0).toNat), .int xv1, .int xv2] S (fun r u => k r ∧ u = S) :=
  cn_body (by decide +kernel) (Nat.le_of_ble_eq_true rfl) (fun p e s m args below meth c ls C hw hl => uX2_sameNest_0 C hw va_S.rf xo0 xt1 xt2 (lv_sub hl [0, 1, 2] rfl) h)
set_option maxHeartbeats 4000000 in
set_option maxRecDepth 10000 in
theorem uX2_signatureOf_0 {p : Program} {l : Launch} {e : Env} {s : State} {m : MethodId} {args : Array Value} {below : List Frame} {meth : Method} {c : Code} {G : GG} {SB : St} (C : Cx p s m args meth c G RX2 cX2_signatureOf 2 (some .int)) {S : St} {H : Heap} {locs : List Loc} {ls : Array Slot}  {k : Int → Prop} (hw : Wd G ((injC SB) S) H) (hS : va_S (AG G) s.heap H locs) {x0 : Int} (xo0 : isO 2 x0) {xv1 : Int32} {x1 : Int} (xt1 : xv1.toInt = x1) (hl : lv_has ls 2 [(0, .ref (G.2.2 (x0).toNat)), (1, .int xv1)])  (h : wX2_signatureOf_0 S x0 x1 k) : W p l e (rmF 0 0) s m args below meth c H locs 0 0 (MQ below (QcI G (injC SB) (fun r u => k r ∧ u = S)) args s 0 0 (AG G)) (F0 m 0 ls []) := by
  refine lv_aload_n C.1.1 C.1.2.1 dX2_signatureOf_0 rfl (lv_at hl 0 rfl) ?_
  refine y_getA C fl_X2_19 hw (oc_of SB xo0) rfl (o := 2) rfl dX2_signatureOf_1 ?_
  refine lv_iload_n C.1.1 C.1.2.1 dX2_signatureOf_4 rfl (lv_at hl 1 rfl) ?_
  refine y_sipush C dX2_signatureOf_5 ⟨by decide, by decide⟩ (fun v2 t2 => ?_)
  refine y_icmp_ge C xt1 t2 dX2_signatureOf_8 (tgt := 15) (by decide) (fun c3 => ?_) (fun c3 => ?_)
  · have h := h.1 c3
    refine lv_aload_n C.1.1 C.1.2.1 dX2_signatureOf_15 rfl (lv_at hl 0 rfl) ?_
    refine y_getA C fl_X2_31 hw (oc_of SB xo0) rfl (o := 5) rfl dX2_signatureOf_16 ?_
    refine lv_iload_n C.1.1 C.1.2.1 dX2_signatureOf_19 rfl (lv_at hl 1 rfl) ?_
    refine y_sipush C dX2_signatureOf_20 ⟨by decide, by decide⟩ (fun v5 t5 => ?_)
    refine y_isub C xt1 t5 dX2_signatureOf_23 (fun v6 t6 => ?_)
    obtain ⟨b7, h⟩ := h
    refine y_iald C hw (ac_2_6 SB xo0) t6 b7 dX2_signatureOf_24 (fun v7 t7 => ?_)
    obtain ⟨b8, h⟩ := h
    obtain ⟨x_8, e8⟩ : ∃ z : Int, z = x0 + 150 + 3 * (S (x0 + 5) (w32 (x1 - 1000))) := ⟨_, rfl⟩
    have h := h x_8 e8
    have o8 : isO 3 x_8 := isO_mb xo0 b8 e8
    refine y_mbO C hw xo0 t7 b8 e8 dX2_signatureOf_25 ?_
    refine y_getI C fl_X2_72 hw (oc_of SB o8) rfl dX2_signatureOf_26 (fun v9 t9 => ?_)
    exact y_iret C hw hS t9 ⟨h, rfl⟩ dX2_signatureOf_29
  · have h := h.2 c3
    refine lv_iload_n C.1.1 C.1.2.1 dX2_signatureOf_11 rfl (lv_at hl 1 rfl) ?_
    refine lv_goto (tgt := 25) C.1.1 C.1.2.1 dX2_signatureOf_12 (by decide) ?_
    obtain ⟨b10, h⟩ := h
    obtain ⟨x_10, e10⟩ : ∃ z : Int, z = x0 + 150 + 3 * x1 := ⟨_, rfl⟩
    have h := h x_10 e10
    have o10 : isO 3 x_10 := isO_mb xo0 b10 e10
    refine y_mbO C hw xo0 xt1 b10 e10 dX2_signatureOf_25 ?_
    refine y_getI C fl_X2_72 hw (oc_of SB o10) rfl dX2_signatureOf_26 (fun v11 t11 => ?_)
    exact y_iret C hw hS t11 ⟨h, rfl⟩ dX2_signatureOf_29
theorem kX2_signatureOf (l : Launch) (G : GG) (SB S : St) {x0 : Int} (xo0 : isO 2 x0) {xv1 : Int32} {x1 : Int} (xt1 : xv1.toInt = x1) {k : Int → Prop} (h : wX2_signatureOf S x0 x1 k) : CnI l yX2_signatureOf cX2_signatureOf 2 (some .int) 0 0 G (injC SB) [.ref (G.2.2 (x0).toNat), .int xv1] S (fun r u => k r ∧ u = S) :=
  cn_body (by decide +kernel) (Nat.le_of_ble_eq_true rfl) (fun p e s m args below meth c ls C hw hl => uX2_signatureOf_0 C hw va_S.rf xo0 xt1 (lv_sub hl [0, 1] rfl) h)
set_option maxHeartbeats 4000000 in
set_option maxRecDepth 10000 in
theorem uX6_hasRef_2_b {p : Program} {l : Launch} {e : Env} {s : State} {m : MethodId} {args : Array Value} {below : List Frame} {meth : Method} {c : Code} {G : GG} {SB : St} (C : Cx p s m args meth c G RX6 cX6_hasRef 3 (some .boolean)) {S : St} {H : Heap} {locs : List Loc} {ls : Array Slot}  {P2 : Int → Prop} {k : Int → Prop} (hw : Wd G ((injC SB) S) H) (hS : va_S (AG G) s.heap H locs) {x0 : Int} (xo0 : isO 6 x0) {xv1 : Int32} {x1 : Int} (xt1 : xv1.toInt = x1) {xv2 : Int32} {x2 : Int} (xt2 : xv2.toInt = x2) (hl : lv_has ls 3 [(0, .ref (G.2.2 (x0).toNat)), (1, .int xv1), (2, .int xv2)])  (hP2 : ∀ {H : Heap} {locs : List Loc} {ls : Array Slot} {yv2 : Int32} {y2 : Int}, yv2.toInt = y2 → Wd G ((injC SB) S) H → va_S (AG G) s.heap H locs → lv_has ls 3 [(0, .ref (G.2.2 (x0).toNat)), (1, .int xv1), (2, .int yv2)] → P2 y2 → W p l e (rmF 0 0) s m args below meth c H locs 0 0 (MQ below (QcI G (injC SB) (fun r u => k r ∧ u = S)) args s 0 0 (AG G)) (F0 m 2 ls [])) (h : wX6_hasRef_2_b S x0 x1 x2 P2 k) : W p l e (rmF 0 0) s m args below meth c H locs 0 0 (MQ below (QcI G (injC SB) (fun r u => k r ∧ u = S)) args s 0 0 (AG G)) (F0 m 2 ls []) := by
  refine lv_iload_n C.1.1 C.1.2.1 dX6_hasRef_2 rfl (lv_at hl 2 rfl) ?_
  refine lv_aload_n C.1.1 C.1.2.1 dX6_hasRef_3 rfl (lv_at hl 0 rfl) ?_
  refine y_getI C fl_X6_54 hw (oc_of SB xo0) rfl dX6_hasRef_4 (fun v1 t1 => ?_)
  refine y_icmp_ge C xt2 t1 dX6_hasRef_7 (tgt := 28) (by decide) (fun c2 => ?_) (fun c2 => ?_)
  · have h := h.1 c2
    refine y_iconst C dX6_hasRef_28 ⟨by decide, by decide⟩ (fun v3 t3 => ?_)
    exact y_zret C hw hS t3 (Or.inl rfl) ⟨h, rfl⟩ dX6_hasRef_29
  · have h := h.2 c2
    refine lv_aload_n C.1.1 C.1.2.1 dX6_hasRef_10 rfl (lv_at hl 0 rfl) ?_
    refine y_getA C fl_X6_19 hw (oc_of SB xo0) rfl (o := 3) rfl dX6_hasRef_11 ?_
    refine lv_iload_n C.1.1 C.1.2.1 dX6_hasRef_14 rfl (lv_at hl 2 rfl) ?_
    obtain ⟨b5, h⟩ := h
    refine y_iald C hw (ac_6_10 SB xo0) xt2 b5 dX6_hasRef_15 (fun v5 t5 => ?_)
    refine lv_iload_n C.1.1 C.1.2.1 dX6_hasRef_16 rfl (lv_at hl 1 rfl) ?_
    refine y_icmp_ne C t5 xt1 dX6_hasRef_17 (tgt := 22) (by decide) (fun c6 => ?_) (fun c6 => ?_)
    · have h := h.1 c6
      obtain ⟨x_7, e7⟩ : ∃ z : Int, z = w32 (x2 + 1) := ⟨_, rfl⟩
      have h := h x_7 e7
      obtain ⟨v7, t7, g7⟩ : ∃ z : Int32, z.toInt = x_7 ∧ xv2 + Int32.ofInt 1 = z := ⟨_, (ti_inc xt2 ⟨by decide, by decide⟩).trans e7.symm, rfl⟩
      refine lv_iinc (v := v7) (lv' := [(2, .int v7), (0, .ref (G.2.2 (x0).toNat)), (1, .int xv1)]) C.1.1 C.1.2.1 dX6_hasRef_22 hl (k := 2) rfl g7 (by decide) rfl (fun ls hl => ?_)
      refine lv_goto (tgt := 2) C.1.1 C.1.2.1 dX6_hasRef_25 (by decide) ?_
      exact hP2 t7 hw hS (lv_sub hl [1, 2, 0] rfl) h
    · have h := h.2 c6
      refine y_iconst C dX6_hasRef_20 ⟨by decide, by decide⟩ (fun v8 t8 => ?_)
      exact y_zret C hw hS t8 (Or.inr rfl) ⟨h, rfl⟩ dX6_hasRef_21
set_option maxHeartbeats 4000000 in
set_option maxRecDepth 10000 in
theorem uX6_hasRef_2 {p : Program} {l : Launch} {e : Env} {s : State} {m : MethodId} {args : Array Value} {below : List Frame} {meth : Method} {c : Code} {G : GG} {SB : St} (C : Cx p s m args meth c G RX6 cX6_hasRef 3 (some .boolean)) {S : St} {H : Heap} {locs : List Loc} {ls : Array Slot}  {k : Int → Prop} (hw : Wd G ((injC SB) S) H) (hS : va_S (AG G) s.heap H locs) {x0 : Int} (xo0 : isO 6 x0) {xv1 : Int32} {x1 : Int} (xt1 : xv1.toInt = x1) {xv2 : Int32} {x2 : Int} (xt2 : xv2.toInt = x2) (hl : lv_has ls 3 [(0, .ref (G.2.2 (x0).toNat)), (1, .int xv1), (2, .int xv2)])  (h : wX6_hasRef_2 S x0 x1 x2 k) : W p l e (rmF 0 0) s m args below meth c H locs 0 0 (MQ below (QcI G (injC SB) (fun r u => k r ∧ u = S)) args s 0 0 (AG G)) (F0 m 2 ls []) := by
  have key : ∀ (n : Nat) {H : Heap} {locs : List Loc} {ls : Array Slot} {xv2 : Int32} {x2 : Int}, xv2.toInt = x2 → Wd G ((injC SB) S) H → va_S (AG G) s.heap H locs → lv_has ls 3 [(0, .ref (G.2.2 (x0).toNat)), (1, .int xv1), (2, .int xv2)] → itP (fun (P : Int → Prop) (a : Int) => wX6_hasRef_2_b S x0 x1 a (fun b0 => P (b0)) k) n (x2) → W p l e (rmF 0 0) s m args below meth c H locs 0 0 (MQ below (QcI G (injC SB) (fun r u => k r ∧ u = S)) args s 0 0 (AG G)) (F0 m 2 ls []) := by
    intro n
    induction n with
    | zero => intro H locs ls xv2 x2 xt2 hw hS hl h; exact h.elim
    | succ n ih =>
      intro H locs ls xv2 x2 xt2 hw hS hl h
      exact uX6_hasRef_2_b C hw hS xo0 xt1 xt2 hl  (P2 := fun b0 => itP _ n (b0)) (fun q0 hw hS hl h => ih q0 hw hS hl h) h
  obtain ⟨n, hn⟩ := h
  exact key n xt2 hw hS hl hn
set_option maxHeartbeats 4000000 in
set_option maxRecDepth 10000 in
theorem uX6_hasRef_0 {p : Program} {l : Launch} {e : Env} {s : State} {m : MethodId} {args : Array Value} {below : List Frame} {meth : Method} {c : Code} {G : GG} {SB : St} (C : Cx p s m args meth c G RX6 cX6_hasRef 3 (some .boolean)) {S : St} {H : Heap} {locs : List Loc} {ls : Array Slot}  {k : Int → Prop} (hw : Wd G ((injC SB) S) H) (hS : va_S (AG G) s.heap H locs) {x0 : Int} (xo0 : isO 6 x0) {xv1 : Int32} {x1 : Int} (xt1 : xv1.toInt = x1) (hl : lv_has ls 3 [(0, .ref (G.2.2 (x0).toNat)), (1, .int xv1)])  (h : wX6_hasRef_0 S x0 x1 k) : W p l e (rmF 0 0) s m args below meth c H locs 0 0 (MQ below (QcI G (injC SB) (fun r u => k r ∧ u = S)) args s 0 0 (AG G)) (F0 m 0 ls []) := by
  refine y_iconst C dX6_hasRef_0 ⟨by decide, by decide⟩ (fun v1 t1 => ?_)
  refine lv_istore_n (lv' := [(2, .int v1), (0, .ref (G.2.2 (x0).toNat)), (1, .int xv1)]) C.1.1 C.1.2.1 dX6_hasRef_1 rfl hl (by decide) rfl (fun ls hl => ?_)
  exact uX6_hasRef_2 C hw hS xo0 xt1 t1 (lv_sub hl [1, 2, 0] rfl)  h
theorem kX6_hasRef (l : Launch) (G : GG) (SB S : St) {x0 : Int} (xo0 : isO 6 x0) {xv1 : Int32} {x1 : Int} (xt1 : xv1.toInt = x1) {k : Int → Prop} (h : wX6_hasRef S x0 x1 k) : CnI l yX6_hasRef cX6_hasRef 3 (some .boolean) 0 0 G (injC SB) [.ref (G.2.2 (x0).toNat), .int xv1] S (fun r u => k r ∧ u = S) :=
  cn_body (by decide +kernel) (Nat.le_of_ble_eq_true rfl) (fun p e s m args below meth c ls C hw hl => uX6_hasRef_0 C hw va_S.rf xo0 xt1 (lv_sub hl [0, 1] rfl) h)
set_option maxHeartbeats 4000000 in
set_option maxRecDepth 10000 in
theorem uX2_behind_0 {p : Program} {l : Launch} {e : Env} {s : State} {m : MethodId} {args : Array Value} {below : List Frame} {meth : Method} {c : Code} {G : GG} {SB : St} (C : Cx p s m args meth c G RX2 cX2_behind 2 (some .int)) {S : St} {H : Heap} {locs : List Loc} {ls : Array Slot}  {k : Int → Prop} (hw : Wd G ((injC SB) S) H) (hS : va_S (AG G) s.heap H locs) {x0 : Int} (xo0 : isO 2 x0) {xv1 : Int32} {x1 : Int} (xt1 : xv1.toInt = x1) (hl : lv_has ls 2 [(0, .ref (G.2.2 (x0).toNat)), (1, .int xv1)])  (h : wX2_behind_0 S x0 x1 k) : W p l e (rmF 0 0) s m args below meth c H locs 0 0 (MQ below (QcI G (injC SB) (fun r u => k r ∧ u = S)) args s 0 0 (AG G)) (F0 m 0 ls []) := by
  refine lv_iload_n C.1.1 C.1.2.1 dX2_behind_0 rfl (lv_at hl 1 rfl) ?_
  refine y_sipush C dX2_behind_1 ⟨by decide, by decide⟩ (fun v1 t1 => ?_)
  refine y_icmp_ge C xt1 t1 dX2_behind_4 (tgt := 11) (by decide) (fun c2 => ?_) (fun c2 => ?_)
  · have h := h.1 c2
    refine lv_aload_n C.1.1 C.1.2.1 dX2_behind_11 rfl (lv_at hl 0 rfl) ?_
    refine y_getA C fl_X2_27 hw (oc_of SB xo0) rfl (o := 4) rfl dX2_behind_12 ?_
    refine lv_iload_n C.1.1 C.1.2.1 dX2_behind_15 rfl (lv_at hl 1 rfl) ?_
    refine y_sipush C dX2_behind_16 ⟨by decide, by decide⟩ (fun v4 t4 => ?_)
    refine y_isub C xt1 t4 dX2_behind_19 (fun v5 t5 => ?_)
    obtain ⟨b6, h⟩ := h
    refine y_iald C hw (ac_2_5 SB xo0) t5 b6 dX2_behind_20 (fun v6 t6 => ?_)
    exact y_iret C hw hS t6 ⟨h, rfl⟩ dX2_behind_21
  · have h := h.2 c2
    refine lv_iload_n C.1.1 C.1.2.1 dX2_behind_7 rfl (lv_at hl 1 rfl) ?_
    refine lv_goto (tgt := 21) C.1.1 C.1.2.1 dX2_behind_8 (by decide) ?_
    exact y_iret C hw hS xt1 ⟨h, rfl⟩ dX2_behind_21
theorem kX2_behind (l : Launch) (G : GG) (SB S : St) {x0 : Int} (xo0 : isO 2 x0) {xv1 : Int32} {x1 : Int} (xt1 : xv1.toInt = x1) {k : Int → Prop} (h : wX2_behind S x0 x1 k) : CnI l yX2_behind cX2_behind 2 (some .int) 0 0 G (injC SB) [.ref (G.2.2 (x0).toNat), .int xv1] S (fun r u => k r ∧ u = S) :=
  cn_body (by decide +kernel) (Nat.le_of_ble_eq_true rfl) (fun p e s m args below meth c ls C hw hl => uX2_behind_0 C hw va_S.rf xo0 xt1 (lv_sub hl [0, 1] rfl) h)
set_option maxHeartbeats 4000000 in
set_option maxRecDepth 10000 in
theorem uX2_clear_22_b {p : Program} {l : Launch} {e : Env} {s : State} {m : MethodId} {args : Array Value} {below : List Frame} {meth : Method} {c : Code} {G : GG} {SB : St} (C : Cx p s m args meth c G RX2 cX2_clear 2 none) {S : St} {H : Heap} {locs : List Loc} {ls : Array Slot}  {P22 : Int → St → Prop} {k : St → Prop} (hw : Wd G ((injC SB) S) H) (hS : va_S (AG G) s.heap H locs) {x0 : Int} (xo0 : isO 2 x0) {xv1 : Int32} {x1 : Int} (xt1 : xv1.toInt = x1) (hl : lv_has ls 2 [(0, .ref (G.2.2 (x0).toNat)), (1, .int xv1)])  (hP22 : ∀ {H : Heap} {locs : List Loc} {ls : Array Slot} {Sy : St} {yv1 : Int32} {y1 : Int}, yv1.toInt = y1 → Wd G ((injC SB) Sy) H → va_S (AG G) s.heap H locs → lv_has ls 2 [(0, .ref (G.2.2 (x0).toNat)), (1, .int yv1)] → P22 y1 Sy → W p l e (rmF 0 0) s m args below meth c H locs 0 0 (MQ below (QcV G (injC SB) k) args s 0 0 (AG G)) (F0 m 22 ls [])) (h : wX2_clear_22_b S x0 x1 P22 k) : W p l e (rmF 0 0) s m args below meth c H locs 0 0 (MQ below (QcV G (injC SB) k) args s 0 0 (AG G)) (F0 m 22 ls []) := by
  refine lv_iload_n C.1.1 C.1.2.1 dX2_clear_22 rfl (lv_at hl 1 rfl) ?_
  refine lv_aload_n C.1.1 C.1.2.1 dX2_clear_23 rfl (lv_at hl 0 rfl) ?_
  refine y_getA C fl_X2_23 hw (oc_of SB xo0) rfl (o := 3) rfl dX2_clear_24 ?_
  refine y_alen C hw (ac_2_4 SB xo0) ⟨by decide, by decide⟩ ⟨by decide, by decide⟩ dX2_clear_27 (fun v2 t2 => ?_)
  refine y_icmp_ge C xt1 t2 dX2_clear_28 (tgt := 44) (by decide) (fun c3 => ?_) (fun c3 => ?_)
  · have h := h.1 c3
    exact y_vret C hw hS h dX2_clear_44
  · have h := h.2 c3
    refine lv_aload_n C.1.1 C.1.2.1 dX2_clear_31 rfl (lv_at hl 0 rfl) ?_
    refine y_getA C fl_X2_23 hw (oc_of SB xo0) rfl (o := 3) rfl dX2_clear_32 ?_
    refine lv_iload_n C.1.1 C.1.2.1 dX2_clear_35 rfl (lv_at hl 1 rfl) ?_
    refine y_lconst0 C dX2_clear_36 (fun v5 t5 => ?_)
    obtain ⟨b6, h⟩ := h
    obtain ⟨S_6, e6⟩ : ∃ z : St, z = up S (x0 + 3) x1 0 := ⟨_, rfl⟩
    have h := h S_6 e6
    refine y_last C hw hS (ac_2_4 SB xo0) xt1 t5 b6 dX2_clear_37 (fun H locs hw hS => ?_)
    have hw : Wd G ((injC SB) S_6) H := by rw [e6]; exact hw
    obtain ⟨x_7, e7⟩ : ∃ z : Int, z = w32 (x1 + 1) := ⟨_, rfl⟩
    have h := h x_7 e7
    obtain ⟨v7, t7, g7⟩ : ∃ z : Int32, z.toInt = x_7 ∧ xv1 + Int32.ofInt 1 = z := ⟨_, (ti_inc xt1 ⟨by decide, by decide⟩).trans e7.symm, rfl⟩
    refine lv_iinc (v := v7) (lv' := [(1, .int v7), (0, .ref (G.2.2 (x0).toNat))]) C.1.1 C.1.2.1 dX2_clear_38 hl (k := 1) rfl g7 (by decide) rfl (fun ls hl => ?_)
    refine lv_goto (tgt := 22) C.1.1 C.1.2.1 dX2_clear_41 (by decide) ?_
    exact hP22 t7 hw hS (lv_sub hl [1, 0] rfl) h
set_option maxHeartbeats 4000000 in
set_option maxRecDepth 10000 in
theorem uX2_clear_22 {p : Program} {l : Launch} {e : Env} {s : State} {m : MethodId} {args : Array Value} {below : List Frame} {meth : Method} {c : Code} {G : GG} {SB : St} (C : Cx p s m args meth c G RX2 cX2_clear 2 none) {S : St} {H : Heap} {locs : List Loc} {ls : Array Slot}  {k : St → Prop} (hw : Wd G ((injC SB) S) H) (hS : va_S (AG G) s.heap H locs) {x0 : Int} (xo0 : isO 2 x0) {xv1 : Int32} {x1 : Int} (xt1 : xv1.toInt = x1) (hl : lv_has ls 2 [(0, .ref (G.2.2 (x0).toNat)), (1, .int xv1)])  (h : wX2_clear_22 S x0 x1 k) : W p l e (rmF 0 0) s m args below meth c H locs 0 0 (MQ below (QcV G (injC SB) k) args s 0 0 (AG G)) (F0 m 22 ls []) := by
  have key : ∀ (n : Nat) {H : Heap} {locs : List Loc} {ls : Array Slot} {S : St} {xv1 : Int32} {x1 : Int}, xv1.toInt = x1 → Wd G ((injC SB) S) H → va_S (AG G) s.heap H locs → lv_has ls 2 [(0, .ref (G.2.2 (x0).toNat)), (1, .int xv1)] → itP (fun (P : Int × St → Prop) (a : Int × St) => wX2_clear_22_b a.2 x0 a.1 (fun b0 b1 => P (b0, b1)) k) n (x1, S) → W p l e (rmF 0 0) s m args below meth c H locs 0 0 (MQ below (QcV G (injC SB) k) args s 0 0 (AG G)) (F0 m 22 ls []) := by
    intro n
    induction n with
    | zero => intro H locs ls S xv1 x1 xt1 hw hS hl h; exact h.elim
    | succ n ih =>
      intro H locs ls S xv1 x1 xt1 hw hS hl h
      exact uX2_clear_22_b C hw hS xo0 xt1 hl  (P22 := fun b0 b1 => itP _ n (b0, b1)) (fun q0 hw hS hl h => ih q0 hw hS hl h) h
  obtain ⟨n, hn⟩ := h
  exact key n xt1 hw hS hl hn
set_option maxHeartbeats 4000000 in
set_option maxRecDepth 10000 in
theorem uX2_clear_0 {p : Program} {l : Launch} {e : Env} {s : State} {m : MethodId} {args : Array Value} {below : List Frame} {meth : Method} {c : Code} {G : GG} {SB : St} (C : Cx p s m args meth c G RX2 cX2_clear 2 none) {S : St} {H : Heap} {locs : List Loc} {ls : Array Slot}  {k : St → Prop} (hw : Wd G ((injC SB) S) H) (hS : va_S (AG G) s.heap H locs) {x0 : Int} (xo0 : isO 2 x0) (hl : lv_has ls 2 [(0, .ref (G.2.2 (x0).toNat))])  (h : wX2_clear_0 S x0 k) : W p l e (rmF 0 0) s m args below meth c H locs 0 0 (MQ below (QcV G (injC SB) k) args s 0 0 (AG G)) (F0 m 0 ls []) := by
  refine lv_aload_n C.1.1 C.1.2.1 dX2_clear_0 rfl (lv_at hl 0 rfl) ?_
  refine y_iconst C dX2_clear_1 ⟨by decide, by decide⟩ (fun v1 t1 => ?_)
  obtain ⟨S_2, e2⟩ : ∃ z : St, z = up S x0 1 0 := ⟨_, rfl⟩
  have h := h S_2 e2
  refine y_putI C fl_X2_38 fp_2_1 hw hS (oc_of SB xo0) rfl t1 dX2_clear_2 (fun H locs hw hS => ?_)
  have hw : Wd G ((injC SB) S_2) H := by rw [e2]; exact hw
  refine lv_aload_n C.1.1 C.1.2.1 dX2_clear_5 rfl (lv_at hl 0 rfl) ?_
  refine y_iconst C dX2_clear_6 ⟨by decide, by decide⟩ (fun v3 t3 => ?_)
  obtain ⟨S_4, e4⟩ : ∃ z : St, z = up S_2 x0 3 0 := ⟨_, rfl⟩
  have h := h S_4 e4
  refine y_putI C fl_X2_42 fp_2_3 hw hS (oc_of SB xo0) rfl t3 dX2_clear_7 (fun H locs hw hS => ?_)
  have hw : Wd G ((injC SB) S_4) H := by rw [e4]; exact hw
  refine lv_aload_n C.1.1 C.1.2.1 dX2_clear_10 rfl (lv_at hl 0 rfl) ?_
  refine y_iconst C dX2_clear_11 ⟨by decide, by decide⟩ (fun v5 t5 => ?_)
  obtain ⟨S_6, e6⟩ : ∃ z : St, z = up S_4 x0 7 0 := ⟨_, rfl⟩
  have h := h S_6 e6
  refine y_putI C fl_X2_45 fp_2_7 hw hS (oc_of SB xo0) rfl t5 dX2_clear_12 (fun H locs hw hS => ?_)
  have hw : Wd G ((injC SB) S_6) H := by rw [e6]; exact hw
  refine lv_aload_n C.1.1 C.1.2.1 dX2_clear_15 rfl (lv_at hl 0 rfl) ?_
  refine y_iconst C dX2_clear_16 ⟨by decide, by decide⟩ (fun v7 t7 => ?_)
  obtain ⟨S_8, e8⟩ : ∃ z : St, z = up S_6 x0 8 0 := ⟨_, rfl⟩
  have h := h S_8 e8
  refine y_putI C fl_X2_48 fp_2_8 hw hS (oc_of SB xo0) rfl t7 dX2_clear_17 (fun H locs hw hS => ?_)
  have hw : Wd G ((injC SB) S_8) H := by rw [e8]; exact hw
  refine y_iconst C dX2_clear_20 ⟨by decide, by decide⟩ (fun v9 t9 => ?_)
  refine lv_istore_n (lv' := [(1, .int v9), (0, .ref (G.2.2 (x0).toNat))]) C.1.1 C.1.2.1 dX2_clear_21 rfl hl (by decide) rfl (fun ls hl => ?_)
  exact uX2_clear_22 C hw hS xo0 t9 (lv_sub hl [1, 0] rfl)  h
theorem kX2_clear (l : Launch) (G : GG) (SB S : St) {x0 : Int} (xo0 : isO 2 x0) {k : St → Prop} (h : wX2_clear S x0 k) : CnV l yX2_clear cX2_clear 2 none 0 0 G (injC SB) [.ref (G.2.2 (x0).toNat)] S k :=
  cn_body (by decide +kernel) (Nat.le_of_ble_eq_true rfl) (fun p e s m args below meth c ls C hw hl => uX2_clear_0 C hw va_S.rf xo0 (lv_sub hl [0] rfl) h)
set_option maxHeartbeats 4000000 in
set_option maxRecDepth 10000 in
theorem uX3_clear_0 {p : Program} {l : Launch} {e : Env} {s : State} {m : MethodId} {args : Array Value} {below : List Frame} {meth : Method} {c : Code} {G : GG} {SB : St} (C : Cx p s m args meth c G RX3 cX3_clear 2 none) {S : St} {H : Heap} {locs : List Loc} {ls : Array Slot}  {k : St → Prop} (hw : Wd G ((injC SB) S) H) (hS : va_S (AG G) s.heap H locs) {x0 : Int} (xo0 : isO 3 x0) {xv1 : Int32} {x1 : Int} (xt1 : xv1.toInt = x1) (hl : lv_has ls 2 [(0, .ref (G.2.2 (x0).toNat)), (1, .int xv1)])  (h : wX3_clear_0 S x0 x1 k) : W p l e (rmF 0 0) s m args below meth c H locs 0 0 (MQ below (QcV G (injC SB) k) args s 0 0 (AG G)) (F0 m 0 ls []) := by
  refine lv_aload_n C.1.1 C.1.2.1 dX3_clear_0 rfl (lv_at hl 0 rfl) ?_
  refine lv_iload_n C.1.1 C.1.2.1 dX3_clear_1 rfl (lv_at hl 1 rfl) ?_
  obtain ⟨S_1, e1⟩ : ∃ z : St, z = up S x0 1 x1 := ⟨_, rfl⟩
  have h := h S_1 e1
  refine y_putI C fl_X3_18 fp_3_1 hw hS (oc_of SB xo0) rfl xt1 dX3_clear_2 (fun H locs hw hS => ?_)
  have hw : Wd G ((injC SB) S_1) H := by rw [e1]; exact hw
  refine lv_aload_n C.1.1 C.1.2.1 dX3_clear_5 rfl (lv_at hl 0 rfl) ?_
  refine y_lconst0 C dX3_clear_6 (fun v2 t2 => ?_)
  obtain ⟨S_3, e3⟩ : ∃ z : St, z = up S_1 x0 0 0 := ⟨_, rfl⟩
  have h := h S_3 e3
  refine y_putJ C fl_X3_22 fp_3_0 hw hS (oc_of SB xo0) rfl t2 dX3_clear_7 (fun H locs hw hS => ?_)
  have hw : Wd G ((injC SB) S_3) H := by rw [e3]; exact hw
  refine lv_aload_n C.1.1 C.1.2.1 dX3_clear_10 rfl (lv_at hl 0 rfl) ?_
  refine y_iconst C dX3_clear_11 ⟨by decide, by decide⟩ (fun v4 t4 => ?_)
  obtain ⟨S_5, e5⟩ : ∃ z : St, z = up S_3 x0 2 1 := ⟨_, rfl⟩
  have h := h S_5 e5
  refine y_putI C fl_X3_26 fp_3_2 hw hS (oc_of SB xo0) rfl t4 dX3_clear_12 (fun H locs hw hS => ?_)
  have hw : Wd G ((injC SB) S_5) H := by rw [e5]; exact hw
  refine lv_aload_n C.1.1 C.1.2.1 dX3_clear_15 rfl (lv_at hl 0 rfl) ?_
  refine y_iconst C dX3_clear_16 ⟨by decide, by decide⟩ (fun v6 t6 => ?_)
  obtain ⟨S_7, e7⟩ : ∃ z : St, z = up S_5 x0 3 0 := ⟨_, rfl⟩
  have h := h S_7 e7
  refine y_putI C fl_X3_29 fp_3_3 hw hS (oc_of SB xo0) rfl t6 dX3_clear_17 (fun H locs hw hS => ?_)
  have hw : Wd G ((injC SB) S_7) H := by rw [e7]; exact hw
  refine lv_aload_n C.1.1 C.1.2.1 dX3_clear_20 rfl (lv_at hl 0 rfl) ?_
  refine y_iconst C dX3_clear_21 ⟨by decide, by decide⟩ (fun v8 t8 => ?_)
  obtain ⟨S_9, e9⟩ : ∃ z : St, z = up S_7 x0 4 0 := ⟨_, rfl⟩
  have h := h S_9 e9
  refine y_putI C fl_X3_32 fp_3_4 hw hS (oc_of SB xo0) rfl t8 dX3_clear_22 (fun H locs hw hS => ?_)
  have hw : Wd G ((injC SB) S_9) H := by rw [e9]; exact hw
  refine lv_aload_n C.1.1 C.1.2.1 dX3_clear_25 rfl (lv_at hl 0 rfl) ?_
  refine y_getA C fl_X3_9 hw (oc_of SB xo0) rfl (o := 1) rfl dX3_clear_26 ?_
  refine y_iconst C dX3_clear_29 ⟨by decide, by decide⟩ (fun v11 t11 => ?_)
  refine y_bipush C dX3_clear_30 ⟨by decide, by decide⟩ (fun v12 t12 => ?_)
  obtain ⟨S_13, e13⟩ : ∃ z : St, z = up S_9 (x0 + 1) 0 (-9) := ⟨_, rfl⟩
  have h := h S_13 e13
  refine y_iast C hw hS (ac_3_5 SB xo0) t11 t12 ⟨by decide, by decide⟩ dX3_clear_32 (fun H locs hw hS => ?_)
  have hw : Wd G ((injC SB) S_13) H := by rw [e13]; exact hw
  refine lv_aload_n C.1.1 C.1.2.1 dX3_clear_33 rfl (lv_at hl 0 rfl) ?_
  refine y_getA C fl_X3_9 hw (oc_of SB xo0) rfl (o := 1) rfl dX3_clear_34 ?_
  refine y_iconst C dX3_clear_37 ⟨by decide, by decide⟩ (fun v15 t15 => ?_)
  refine y_bipush C dX3_clear_38 ⟨by decide, by decide⟩ (fun v16 t16 => ?_)
  obtain ⟨S_17, e17⟩ : ∃ z : St, z = up S_13 (x0 + 1) 1 (-9) := ⟨_, rfl⟩
  have h := h S_17 e17
  refine y_iast C hw hS (ac_3_5 SB xo0) t15 t16 ⟨by decide, by decide⟩ dX3_clear_40 (fun H locs hw hS => ?_)
  have hw : Wd G ((injC SB) S_17) H := by rw [e17]; exact hw
  refine lv_aload_n C.1.1 C.1.2.1 dX3_clear_41 rfl (lv_at hl 0 rfl) ?_
  refine y_getA C fl_X3_9 hw (oc_of SB xo0) rfl (o := 1) rfl dX3_clear_42 ?_
  refine y_iconst C dX3_clear_45 ⟨by decide, by decide⟩ (fun v19 t19 => ?_)
  refine y_bipush C dX3_clear_46 ⟨by decide, by decide⟩ (fun v20 t20 => ?_)
  obtain ⟨S_21, e21⟩ : ∃ z : St, z = up S_17 (x0 + 1) 2 (-2) := ⟨_, rfl⟩
  have h := h S_21 e21
  refine y_iast C hw hS (ac_3_5 SB xo0) t19 t20 ⟨by decide, by decide⟩ dX3_clear_48 (fun H locs hw hS => ?_)
  have hw : Wd G ((injC SB) S_21) H := by rw [e21]; exact hw
  exact y_vret C hw hS h dX3_clear_49
theorem kX3_clear (l : Launch) (G : GG) (SB S : St) {x0 : Int} (xo0 : isO 3 x0) {xv1 : Int32} {x1 : Int} (xt1 : xv1.toInt = x1) {k : St → Prop} (h : wX3_clear S x0 x1 k) : CnV l yX3_clear cX3_clear 2 none 0 0 G (injC SB) [.ref (G.2.2 (x0).toNat), .int xv1] S k :=
  cn_body (by decide +kernel) (Nat.le_of_ble_eq_true rfl) (fun p e s m args below meth c ls C hw hl => uX3_clear_0 C hw va_S.rf xo0 xt1 (lv_sub hl [0, 1] rfl) h)
set_option maxHeartbeats 4000000 in
set_option maxRecDepth 10000 in
theorem uX6_varNamed_2_b {p : Program} {l : Launch} {e : Env} {s : State} {m : MethodId} {args : Array Value} {below : List Frame} {meth : Method} {c : Code} {G : GG} {SB : St} (C : Cx p s m args meth c G RX6 cX6_varNamed 4 (some .int)) {S : St} {H : Heap} {locs : List Loc} {ls : Array Slot}  {P2 : Int → Prop} {k : Int → Prop} (hw : Wd G ((injC SB) S) H) (hS : va_S (AG G) s.heap H locs) {x0 : Int} (xo0 : isO 6 x0) {xv1 : Int64} {x1 : Int} (xt1 : xv1.toInt = x1) {xv3 : Int32} {x3 : Int} (xt3 : xv3.toInt = x3) (hl : lv_has ls 4 [(0, .ref (G.2.2 (x0).toNat)), (1, .long xv1), (3, .int xv3)])  (hP2 : ∀ {H : Heap} {locs : List Loc} {ls : Array Slot} {yv3 : Int32} {y3 : Int}, yv3.toInt = y3 → Wd G ((injC SB) S) H → va_S (AG G) s.heap H locs → lv_has ls 4 [(0, .ref (G.2.2 (x0).toNat)), (1, .long xv1), (3, .int yv3)] → P2 y3 → W p l e (rmF 0 0) s m args below meth c H locs 0 0 (MQ below (QcI G (injC SB) (fun r u => k r ∧ u = S)) args s 0 0 (AG G)) (F0 m 2 ls [])) (h : wX6_varNamed_2_b S x0 x1 x3 P2 k) : W p l e (rmF 0 0) s m args below meth c H locs 0 0 (MQ below (QcI G (injC SB) (fun r u => k r ∧ u = S)) args s 0 0 (AG G)) (F0 m 2 ls []) := by
  refine lv_iload_n C.1.1 C.1.2.1 dX6_varNamed_2 rfl (lv_at hl 2 rfl) ?_
  refine lv_aload_n C.1.1 C.1.2.1 dX6_varNamed_3 rfl (lv_at hl 0 rfl) ?_
  refine y_getI C fl_X6_51 hw (oc_of SB xo0) rfl dX6_varNamed_4 (fun v1 t1 => ?_)
  refine y_icmp_ge C xt3 t1 dX6_varNamed_7 (tgt := 29) (by decide) (fun c2 => ?_) (fun c2 => ?_)
  · have h := h.1 c2
    refine y_iconst C dX6_varNamed_29 ⟨by decide, by decide⟩ (fun v3 t3 => ?_)
    exact y_iret C hw hS t3 ⟨h, rfl⟩ dX6_varNamed_30
  · have h := h.2 c2
    refine lv_aload_n C.1.1 C.1.2.1 dX6_varNamed_10 rfl (lv_at hl 0 rfl) ?_
    refine y_getA C fl_X6_9 hw (oc_of SB xo0) rfl (o := 1) rfl dX6_varNamed_11 ?_
    refine lv_iload_n C.1.1 C.1.2.1 dX6_varNamed_14 rfl (lv_at hl 2 rfl) ?_
    obtain ⟨b5, h⟩ := h
    refine y_lald C hw (ac_6_7 SB xo0) xt3 b5 dX6_varNamed_15 (fun v5 t5 => ?_)
    refine lv_lload_n C.1.1 C.1.2.1 dX6_varNamed_16 rfl (lv_at hl 1 rfl) ?_
    refine y_lcmp C t5 xt1 dX6_varNamed_17 (fun v6 t6 => ?_)
    refine y_if_ne C t6 dX6_varNamed_18 (tgt := 23) (by decide) (fun c7 => ?_) (fun c7 => ?_)
    · have c7 := cmp_ne.mp c7
      have h := h.1 c7
      obtain ⟨x_8, e8⟩ : ∃ z : Int, z = w32 (x3 + 1) := ⟨_, rfl⟩
      have h := h x_8 e8
      obtain ⟨v8, t8, g8⟩ : ∃ z : Int32, z.toInt = x_8 ∧ xv3 + Int32.ofInt 1 = z := ⟨_, (ti_inc xt3 ⟨by decide, by decide⟩).trans e8.symm, rfl⟩
      refine lv_iinc (v := v8) (lv' := [(3, .int v8), (0, .ref (G.2.2 (x0).toNat)), (1, .long xv1)]) C.1.1 C.1.2.1 dX6_varNamed_23 hl (k := 2) rfl g8 (by decide) rfl (fun ls hl => ?_)
      refine lv_goto (tgt := 2) C.1.1 C.1.2.1 dX6_varNamed_26 (by decide) ?_
      exact hP2 t8 hw hS (lv_sub hl [1, 2, 0] rfl) h
    · have c7 := cmp_eq.mp c7
      have h := h.2 c7
      refine lv_iload_n C.1.1 C.1.2.1 dX6_varNamed_21 rfl (lv_at hl 2 rfl) ?_
      exact y_iret C hw hS xt3 ⟨h, rfl⟩ dX6_varNamed_22
set_option maxHeartbeats 4000000 in
set_option maxRecDepth 10000 in
theorem uX6_varNamed_2 {p : Program} {l : Launch} {e : Env} {s : State} {m : MethodId} {args : Array Value} {below : List Frame} {meth : Method} {c : Code} {G : GG} {SB : St} (C : Cx p s m args meth c G RX6 cX6_varNamed 4 (some .int)) {S : St} {H : Heap} {locs : List Loc} {ls : Array Slot}  {k : Int → Prop} (hw : Wd G ((injC SB) S) H) (hS : va_S (AG G) s.heap H locs) {x0 : Int} (xo0 : isO 6 x0) {xv1 : Int64} {x1 : Int} (xt1 : xv1.toInt = x1) {xv3 : Int32} {x3 : Int} (xt3 : xv3.toInt = x3) (hl : lv_has ls 4 [(0, .ref (G.2.2 (x0).toNat)), (1, .long xv1), (3, .int xv3)])  (h : wX6_varNamed_2 S x0 x1 x3 k) : W p l e (rmF 0 0) s m args below meth c H locs 0 0 (MQ below (QcI G (injC SB) (fun r u => k r ∧ u = S)) args s 0 0 (AG G)) (F0 m 2 ls []) := by
  have key : ∀ (n : Nat) {H : Heap} {locs : List Loc} {ls : Array Slot} {xv3 : Int32} {x3 : Int}, xv3.toInt = x3 → Wd G ((injC SB) S) H → va_S (AG G) s.heap H locs → lv_has ls 4 [(0, .ref (G.2.2 (x0).toNat)), (1, .long xv1), (3, .int xv3)] → itP (fun (P : Int → Prop) (a : Int) => wX6_varNamed_2_b S x0 x1 a (fun b0 => P (b0)) k) n (x3) → W p l e (rmF 0 0) s m args below meth c H locs 0 0 (MQ below (QcI G (injC SB) (fun r u => k r ∧ u = S)) args s 0 0 (AG G)) (F0 m 2 ls []) := by
    intro n
    induction n with
    | zero => intro H locs ls xv3 x3 xt3 hw hS hl h; exact h.elim
    | succ n ih =>
      intro H locs ls xv3 x3 xt3 hw hS hl h
      exact uX6_varNamed_2_b C hw hS xo0 xt1 xt3 hl  (P2 := fun b0 => itP _ n (b0)) (fun q0 hw hS hl h => ih q0 hw hS hl h) h
  obtain ⟨n, hn⟩ := h
  exact key n xt3 hw hS hl hn
set_option maxHeartbeats 4000000 in
set_option maxRecDepth 10000 in
theorem uX6_varNamed_0 {p : Program} {l : Launch} {e : Env} {s : State} {m : MethodId} {args : Array Value} {below : List Frame} {meth : Method} {c : Code} {G : GG} {SB : St} (C : Cx p s m args meth c G RX6 cX6_varNamed 4 (some .int)) {S : St} {H : Heap} {locs : List Loc} {ls : Array Slot}  {k : Int → Prop} (hw : Wd G ((injC SB) S) H) (hS : va_S (AG G) s.heap H locs) {x0 : Int} (xo0 : isO 6 x0) {xv1 : Int64} {x1 : Int} (xt1 : xv1.toInt = x1) (hl : lv_has ls 4 [(0, .ref (G.2.2 (x0).toNat)), (1, .long xv1)])  (h : wX6_varNamed_0 S x0 x1 k) : W p l e (rmF 0 0) s m args below meth c H locs 0 0 (MQ below (QcI G (injC SB) (fun r u => k r ∧ u = S)) args s 0 0 (AG G)) (F0 m 0 ls []) := by
  refine y_iconst C dX6_varNamed_0 ⟨by decide, by decide⟩ (fun v1 t1 => ?_)
  refine lv_istore_n (lv' := [(3, .int v1), (0, .ref (G.2.2 (x0).toNat)), (1, .long xv1)]) C.1.1 C.1.2.1 dX6_varNamed_1 rfl hl (by decide) rfl (fun ls hl => ?_)
  exact uX6_varNamed_2 C hw hS xo0 xt1 t1 (lv_sub hl [1, 2, 0] rfl)  h
theorem kX6_varNamed (l : Launch) (G : GG) (SB S : St) {x0 : Int} (xo0 : isO 6 x0) {xv1 : Int64} {x1 : Int} (xt1 : xv1.toInt = x1) {k : Int → Prop} (h : wX6_varNamed S x0 x1 k) : CnI l yX6_varNamed cX6_varNamed 4 (some .int) 0 0 G (injC SB) [.ref (G.2.2 (x0).toNat), .long xv1] S (fun r u => k r ∧ u = S) :=
  cn_body (by decide +kernel) (Nat.le_of_ble_eq_true rfl) (fun p e s m args below meth c ls C hw hl => uX6_varNamed_0 C hw va_S.rf xo0 xt1 (lv_sub hl [0, 1] rfl) h)
set_option maxHeartbeats 4000000 in
set_option maxRecDepth 10000 in
theorem uX6_clear_0 {p : Program} {l : Launch} {e : Env} {s : State} {m : MethodId} {args : Array Value} {below : List Frame} {meth : Method} {c : Code} {G : GG} {SB : St} (C : Cx p s m args meth c G RX6 cX6_clear 5 none) {S : St} {H : Heap} {locs : List Loc} {ls : Array Slot}  {k : St → Prop} (hw : Wd G ((injC SB) S) H) (hS : va_S (AG G) s.heap H locs) {x0 : Int} (xo0 : isO 6 x0) {xv1 : Int32} {x1 : Int} (xt1 : xv1.toInt = x1) {xv2 : Int32} {x2 : Int} (xt2 : xv2.toInt = x2) {xv3 : Int32} {x3 : Int} (xt3 : xv3.toInt = x3) {xv4 : Int32} {x4 : Int} (xt4 : xv4.toInt = x4) (hl : lv_has ls 5 [(0, .ref (G.2.2 (x0).toNat)), (1, .int xv1), (2, .int xv2), (3, .int xv3), (4, .int xv4)])  (h : wX6_clear_0 S x0 x1 x2 x3 x4 k) : W p l e (rmF 0 0) s m args below meth c H locs 0 0 (MQ below (QcV G (injC SB) k) args s 0 0 (AG G)) (F0 m 0 ls []) := by
  refine lv_aload_n C.1.1 C.1.2.1 dX6_clear_0 rfl (lv_at hl 0 rfl) ?_
  refine lv_iload_n C.1.1 C.1.2.1 dX6_clear_1 rfl (lv_at hl 1 rfl) ?_
  obtain ⟨S_1, e1⟩ : ∃ z : St, z = up S x0 4 x1 := ⟨_, rfl⟩
  have h := h S_1 e1
  refine y_putI C fl_X6_32 fp_6_4 hw hS (oc_of SB xo0) rfl xt1 dX6_clear_2 (fun H locs hw hS => ?_)
  have hw : Wd G ((injC SB) S_1) H := by rw [e1]; exact hw
  refine lv_aload_n C.1.1 C.1.2.1 dX6_clear_5 rfl (lv_at hl 0 rfl) ?_
  refine lv_iload_n C.1.1 C.1.2.1 dX6_clear_6 rfl (lv_at hl 2 rfl) ?_
  obtain ⟨S_2, e2⟩ : ∃ z : St, z = up S_1 x0 2 x2 := ⟨_, rfl⟩
  have h := h S_2 e2
  refine y_putI C fl_X6_35 fp_6_2 hw hS (oc_of SB xo0) rfl xt2 dX6_clear_7 (fun H locs hw hS => ?_)
  have hw : Wd G ((injC SB) S_2) H := by rw [e2]; exact hw
  refine lv_aload_n C.1.1 C.1.2.1 dX6_clear_10 rfl (lv_at hl 0 rfl) ?_
  refine lv_iload_n C.1.1 C.1.2.1 dX6_clear_11 rfl (lv_at hl 3 rfl) ?_
  obtain ⟨S_3, e3⟩ : ∃ z : St, z = up S_2 x0 3 x3 := ⟨_, rfl⟩
  have h := h S_3 e3
  refine y_putI C fl_X6_38 fp_6_3 hw hS (oc_of SB xo0) rfl xt3 dX6_clear_12 (fun H locs hw hS => ?_)
  have hw : Wd G ((injC SB) S_3) H := by rw [e3]; exact hw
  refine lv_aload_n C.1.1 C.1.2.1 dX6_clear_15 rfl (lv_at hl 0 rfl) ?_
  refine lv_iload C.1.1 C.1.2.1 dX6_clear_16 (lv_at hl 4 rfl) ?_
  obtain ⟨S_4, e4⟩ : ∃ z : St, z = up S_3 x0 16 x4 := ⟨_, rfl⟩
  have h := h S_4 e4
  refine y_putI C fl_X6_41 fp_6_16 hw hS (oc_of SB xo0) rfl xt4 dX6_clear_18 (fun H locs hw hS => ?_)
  have hw : Wd G ((injC SB) S_4) H := by rw [e4]; exact hw
  refine lv_aload_n C.1.1 C.1.2.1 dX6_clear_21 rfl (lv_at hl 0 rfl) ?_
  refine y_lconst0 C dX6_clear_22 (fun v5 t5 => ?_)
  obtain ⟨S_6, e6⟩ : ∃ z : St, z = up S_4 x0 1 0 := ⟨_, rfl⟩
  have h := h S_6 e6
  refine y_putJ C fl_X6_44 fp_6_1 hw hS (oc_of SB xo0) rfl t5 dX6_clear_23 (fun H locs hw hS => ?_)
  have hw : Wd G ((injC SB) S_6) H := by rw [e6]; exact hw
  refine lv_aload_n C.1.1 C.1.2.1 dX6_clear_26 rfl (lv_at hl 0 rfl) ?_
  refine lv_aload_n C.1.1 C.1.2.1 dX6_clear_27 rfl (lv_at hl 0 rfl) ?_
  refine y_getI C fl_X6_28 hw (oc_of SB xo0) rfl dX6_clear_28 (fun v7 t7 => ?_)
  obtain ⟨S_8, e8⟩ : ∃ z : St, z = up S_6 x0 5 (S_6 x0 0) := ⟨_, rfl⟩
  have h := h S_8 e8
  refine y_putI C fl_X6_48 fp_6_5 hw hS (oc_of SB xo0) rfl t7 dX6_clear_31 (fun H locs hw hS => ?_)
  have hw : Wd G ((injC SB) S_8) H := by rw [e8]; exact hw
  refine lv_aload_n C.1.1 C.1.2.1 dX6_clear_34 rfl (lv_at hl 0 rfl) ?_
  refine y_iconst C dX6_clear_35 ⟨by decide, by decide⟩ (fun v9 t9 => ?_)
  obtain ⟨S_10, e10⟩ : ∃ z : St, z = up S_8 x0 6 0 := ⟨_, rfl⟩
  have h := h S_10 e10
  refine y_putI C fl_X6_51 fp_6_6 hw hS (oc_of SB xo0) rfl t9 dX6_clear_36 (fun H locs hw hS => ?_)
  have hw : Wd G ((injC SB) S_10) H := by rw [e10]; exact hw
  refine lv_aload_n C.1.1 C.1.2.1 dX6_clear_39 rfl (lv_at hl 0 rfl) ?_
  refine y_iconst C dX6_clear_40 ⟨by decide, by decide⟩ (fun v11 t11 => ?_)
  obtain ⟨S_12, e12⟩ : ∃ z : St, z = up S_10 x0 9 0 := ⟨_, rfl⟩
  have h := h S_12 e12
  refine y_putI C fl_X6_54 fp_6_9 hw hS (oc_of SB xo0) rfl t11 dX6_clear_41 (fun H locs hw hS => ?_)
  have hw : Wd G ((injC SB) S_12) H := by rw [e12]; exact hw
  refine lv_aload_n C.1.1 C.1.2.1 dX6_clear_44 rfl (lv_at hl 0 rfl) ?_
  refine y_iconst C dX6_clear_45 ⟨by decide, by decide⟩ (fun v13 t13 => ?_)
  obtain ⟨S_14, e14⟩ : ∃ z : St, z = up S_12 x0 11 (-1) := ⟨_, rfl⟩
  have h := h S_14 e14
  refine y_putI C fl_X6_57 fp_6_11 hw hS (oc_of SB xo0) rfl t13 dX6_clear_46 (fun H locs hw hS => ?_)
  have hw : Wd G ((injC SB) S_14) H := by rw [e14]; exact hw
  refine lv_aload_n C.1.1 C.1.2.1 dX6_clear_49 rfl (lv_at hl 0 rfl) ?_
  refine y_iconst C dX6_clear_50 ⟨by decide, by decide⟩ (fun v15 t15 => ?_)
  obtain ⟨S_16, e16⟩ : ∃ z : St, z = up S_14 x0 12 0 := ⟨_, rfl⟩
  have h := h S_16 e16
  refine y_putI C fl_X6_60 fp_6_12 hw hS (oc_of SB xo0) rfl t15 dX6_clear_51 (fun H locs hw hS => ?_)
  have hw : Wd G ((injC SB) S_16) H := by rw [e16]; exact hw
  refine lv_aload_n C.1.1 C.1.2.1 dX6_clear_54 rfl (lv_at hl 0 rfl) ?_
  refine y_iconst C dX6_clear_55 ⟨by decide, by decide⟩ (fun v17 t17 => ?_)
  obtain ⟨S_18, e18⟩ : ∃ z : St, z = up S_16 x0 14 0 := ⟨_, rfl⟩
  have h := h S_18 e18
  refine y_putI C fl_X6_63 fp_6_14 hw hS (oc_of SB xo0) rfl t17 dX6_clear_56 (fun H locs hw hS => ?_)
  have hw : Wd G ((injC SB) S_18) H := by rw [e18]; exact hw
  refine lv_aload_n C.1.1 C.1.2.1 dX6_clear_59 rfl (lv_at hl 0 rfl) ?_
  refine y_iconst C dX6_clear_60 ⟨by decide, by decide⟩ (fun v19 t19 => ?_)
  obtain ⟨S_20, e20⟩ : ∃ z : St, z = up S_18 x0 17 0 := ⟨_, rfl⟩
  have h := h S_20 e20
  refine y_putI C fl_X6_66 fp_6_17 hw hS (oc_of SB xo0) rfl t19 dX6_clear_61 (fun H locs hw hS => ?_)
  have hw : Wd G ((injC SB) S_20) H := by rw [e20]; exact hw
  refine lv_aload_n C.1.1 C.1.2.1 dX6_clear_64 rfl (lv_at hl 0 rfl) ?_
  refine y_iconst C dX6_clear_65 ⟨by decide, by decide⟩ (fun v21 t21 => ?_)
  obtain ⟨S_22, e22⟩ : ∃ z : St, z = up S_20 x0 18 0 := ⟨_, rfl⟩
  have h := h S_22 e22
  refine y_putI C fl_X6_69 fp_6_18 hw hS (oc_of SB xo0) rfl t21 dX6_clear_66 (fun H locs hw hS => ?_)
  have hw : Wd G ((injC SB) S_22) H := by rw [e22]; exact hw
  refine lv_aload_n C.1.1 C.1.2.1 dX6_clear_69 rfl (lv_at hl 0 rfl) ?_
  refine y_iconst C dX6_clear_70 ⟨by decide, by decide⟩ (fun v23 t23 => ?_)
  obtain ⟨S_24, e24⟩ : ∃ z : St, z = up S_22 x0 19 0 := ⟨_, rfl⟩
  have h := h S_24 e24
  refine y_putI C fl_X6_72 fp_6_19 hw hS (oc_of SB xo0) rfl t23 dX6_clear_71 (fun H locs hw hS => ?_)
  have hw : Wd G ((injC SB) S_24) H := by rw [e24]; exact hw
  exact y_vret C hw hS h dX6_clear_74
theorem kX6_clear (l : Launch) (G : GG) (SB S : St) {x0 : Int} (xo0 : isO 6 x0) {xv1 : Int32} {x1 : Int} (xt1 : xv1.toInt = x1) {xv2 : Int32} {x2 : Int} (xt2 : xv2.toInt = x2) {xv3 : Int32} {x3 : Int} (xt3 : xv3.toInt = x3) {xv4 : Int32} {x4 : Int} (xt4 : xv4.toInt = x4) {k : St → Prop} (h : wX6_clear S x0 x1 x2 x3 x4 k) : CnV l yX6_clear cX6_clear 5 none 0 0 G (injC SB) [.ref (G.2.2 (x0).toNat), .int xv1, .int xv2, .int xv3, .int xv4] S k :=
  cn_body (by decide +kernel) (Nat.le_of_ble_eq_true rfl) (fun p e s m args below meth c ls C hw hl => uX6_clear_0 C hw va_S.rf xo0 xt1 xt2 xt3 xt4 (lv_sub hl [0, 1, 2, 3, 4] rfl) h)
