set_option maxHeartbeats 4000000 in
set_option maxRecDepth 10000 in
theorem uX3_hasErasedKindsOf_0 {p : Program} {l : Launch} {e : Env} {s : State} {m : MethodId} {args : Array Value} {below : List Frame} {meth : Method} {c : Code} {G : GG} {SB : St} (C : Cx p s m args meth c G RX3 cX3_hasErasedKindsOf 2 (some .boolean)) {S : St} {H : Heap} {locs : List Loc} {ls : Array Slot}  {k : Int → Prop} (hw : Wd G ((injC SB) S) H) (hS : va_S (AG G) s.heap H locs) {x0 : Int} (xo0 : isO 3 x0) {x1 : Int} (xo1 : isO 3 x1) (hl : lv_has ls 2 [(0, .ref (G.2.2 (x0).toNat)), (1, .ref (G.2.2 (x1).toNat))])  (h : wX3_hasErasedKindsOf_0 S x0 x1 k) : W p l e (rmF 0 0) s m args below meth c H locs 0 0 (MQ below (QcI G (injC SB) (fun r u => k r ∧ u = S)) args s 0 0 (AG G)) (F0 m 0 ls []) := by
  refine lv_aload_n C.1.1 C.1.2.1 dX3_hasErasedKindsOf_0 rfl (lv_at hl 0 rfl) ?_
  refine y_getJ C fl_X3_22 hw (oc_of SB xo0) rfl dX3_hasErasedKindsOf_1 (fun v1 t1 => ?_)
  refine lv_aload_n C.1.1 C.1.2.1 dX3_hasErasedKindsOf_4 rfl (lv_at hl 1 rfl) ?_
  refine y_getJ C fl_X3_22 hw (oc_of SB xo1) rfl dX3_hasErasedKindsOf_5 (fun v2 t2 => ?_)
  refine y_lcmp C t1 t2 dX3_hasErasedKindsOf_8 (fun v3 t3 => ?_)
  refine y_if_ne C t3 dX3_hasErasedKindsOf_9 (tgt := 46) (by decide) (fun c4 => ?_) (fun c4 => ?_)
  · have c4 := cmp_ne.mp c4
    have h := h.1 c4
    refine y_iconst C dX3_hasErasedKindsOf_46 ⟨by decide, by decide⟩ (fun v5 t5 => ?_)
    exact y_zret C hw hS t5 (Or.inl rfl) ⟨h, rfl⟩ dX3_hasErasedKindsOf_47
  · have c4 := cmp_eq.mp c4
    have h := h.2 c4
    refine lv_aload_n C.1.1 C.1.2.1 dX3_hasErasedKindsOf_12 rfl (lv_at hl 0 rfl) ?_
    refine y_getA C fl_X3_15 hw (oc_of SB xo0) rfl (o := 2) rfl dX3_hasErasedKindsOf_13 ?_
    refine y_iconst C dX3_hasErasedKindsOf_16 ⟨by decide, by decide⟩ (fun v7 t7 => ?_)
    refine y_iald C hw (ac_3_6 SB xo0) t7 ⟨by decide, by decide⟩ dX3_hasErasedKindsOf_17 (fun v8 t8 => ?_)
    refine lv_aload_n C.1.1 C.1.2.1 dX3_hasErasedKindsOf_18 rfl (lv_at hl 1 rfl) ?_
    refine y_getA C fl_X3_15 hw (oc_of SB xo1) rfl (o := 2) rfl dX3_hasErasedKindsOf_19 ?_
    refine y_iconst C dX3_hasErasedKindsOf_22 ⟨by decide, by decide⟩ (fun v10 t10 => ?_)
    refine y_iald C hw (ac_3_6 SB xo1) t10 ⟨by decide, by decide⟩ dX3_hasErasedKindsOf_23 (fun v11 t11 => ?_)
    refine y_icmp_ne C t8 t11 dX3_hasErasedKindsOf_24 (tgt := 46) (by decide) (fun c12 => ?_) (fun c12 => ?_)
    · have h := h.1 c12
      refine y_iconst C dX3_hasErasedKindsOf_46 ⟨by decide, by decide⟩ (fun v13 t13 => ?_)
      exact y_zret C hw hS t13 (Or.inl rfl) ⟨h, rfl⟩ dX3_hasErasedKindsOf_47
    · have h := h.2 c12
      refine lv_aload_n C.1.1 C.1.2.1 dX3_hasErasedKindsOf_27 rfl (lv_at hl 0 rfl) ?_
      refine y_getA C fl_X3_15 hw (oc_of SB xo0) rfl (o := 2) rfl dX3_hasErasedKindsOf_28 ?_
      refine y_iconst C dX3_hasErasedKindsOf_31 ⟨by decide, by decide⟩ (fun v15 t15 => ?_)
      refine y_iald C hw (ac_3_6 SB xo0) t15 ⟨by decide, by decide⟩ dX3_hasErasedKindsOf_32 (fun v16 t16 => ?_)
      refine lv_aload_n C.1.1 C.1.2.1 dX3_hasErasedKindsOf_33 rfl (lv_at hl 1 rfl) ?_
      refine y_getA C fl_X3_15 hw (oc_of SB xo1) rfl (o := 2) rfl dX3_hasErasedKindsOf_34 ?_
      refine y_iconst C dX3_hasErasedKindsOf_37 ⟨by decide, by decide⟩ (fun v18 t18 => ?_)
      refine y_iald C hw (ac_3_6 SB xo1) t18 ⟨by decide, by decide⟩ dX3_hasErasedKindsOf_38 (fun v19 t19 => ?_)
      refine y_icmp_ne C t16 t19 dX3_hasErasedKindsOf_39 (tgt := 46) (by decide) (fun c20 => ?_) (fun c20 => ?_)
      · have h := h.1 c20
        refine y_iconst C dX3_hasErasedKindsOf_46 ⟨by decide, by decide⟩ (fun v21 t21 => ?_)
        exact y_zret C hw hS t21 (Or.inl rfl) ⟨h, rfl⟩ dX3_hasErasedKindsOf_47
      · have h := h.2 c20
        refine y_iconst C dX3_hasErasedKindsOf_42 ⟨by decide, by decide⟩ (fun v22 t22 => ?_)
        refine lv_goto (tgt := 47) C.1.1 C.1.2.1 dX3_hasErasedKindsOf_43 (by decide) ?_
        exact y_zret C hw hS t22 (Or.inr rfl) ⟨h, rfl⟩ dX3_hasErasedKindsOf_47
theorem kX3_hasErasedKindsOf (l : Launch) (G : GG) (SB S : St) {x0 : Int} (xo0 : isO 3 x0) {x1 : Int} (xo1 : isO 3 x1) {k : Int → Prop} (h : wX3_hasErasedKindsOf S x0 x1 k) : CnI l yX3_hasErasedKindsOf cX3_hasErasedKindsOf 2 (some .boolean) 0 0 G (injC SB) [.ref (G.2.2 (x0).toNat), .ref (G.2.2 (x1).toNat)] S (fun r u => k r ∧ u = S) :=
  cn_body (by decide +kernel) (Nat.le_of_ble_eq_true rfl) (fun p e s m args below meth c ls C hw hl => uX3_hasErasedKindsOf_0 C hw va_S.rf xo0 xo1 (lv_sub hl [0, 1] rfl) h)
set_option maxHeartbeats 4000000 in
set_option maxRecDepth 10000 in
theorem uX6_isBelow_0 {p : Program} {l : Launch} {e : Env} {s : State} {m : MethodId} {args : Array Value} {below : List Frame} {meth : Method} {c : Code} {G : GG} {SB : St} (C : Cx p s m args meth c G RX6 cX6_isBelow 2 (some .boolean)) {S : St} {H : Heap} {locs : List Loc} {ls : Array Slot}  {k : Int → Prop} (hw : Wd G ((injC SB) S) H) (hS : va_S (AG G) s.heap H locs) {x0 : Int} (xo0 : isO 6 x0) {xv1 : Int32} {x1 : Int} (xt1 : xv1.toInt = x1) (hl : lv_has ls 2 [(0, .ref (G.2.2 (x0).toNat)), (1, .int xv1)])  (h : wX6_isBelow_0 S x0 x1 k) : W p l e (rmF 0 0) s m args below meth c H locs 0 0 (MQ below (QcI G (injC SB) (fun r u => k r ∧ u = S)) args s 0 0 (AG G)) (F0 m 0 ls []) := by
  refine lv_aload_n C.1.1 C.1.2.1 dX6_isBelow_0 rfl (lv_at hl 0 rfl) ?_
  refine y_getI C fl_X6_63 hw (oc_of SB xo0) rfl dX6_isBelow_1 (fun v1 t1 => ?_)
  refine lv_iload_n C.1.1 C.1.2.1 dX6_isBelow_4 rfl (lv_at hl 1 rfl) ?_
  refine y_iushr C t1 xt1 dX6_isBelow_5 (fun v2 t2 => ?_)
  refine y_iconst C dX6_isBelow_6 ⟨by decide, by decide⟩ (fun v3 t3 => ?_)
  refine y_iand C t2 t3 dX6_isBelow_7 (fun v4 t4 => ?_)
  refine y_if_eq C t4 dX6_isBelow_8 (tgt := 15) (by decide) (fun c5 => ?_) (fun c5 => ?_)
  · have h := h.1 c5
    refine y_iconst C dX6_isBelow_15 ⟨by decide, by decide⟩ (fun v6 t6 => ?_)
    exact y_zret C hw hS t6 (Or.inl rfl) ⟨h, rfl⟩ dX6_isBelow_16
  · have h := h.2 c5
    refine y_iconst C dX6_isBelow_11 ⟨by decide, by decide⟩ (fun v7 t7 => ?_)
    refine lv_goto (tgt := 16) C.1.1 C.1.2.1 dX6_isBelow_12 (by decide) ?_
    exact y_zret C hw hS t7 (Or.inr rfl) ⟨h, rfl⟩ dX6_isBelow_16
theorem kX6_isBelow (l : Launch) (G : GG) (SB S : St) {x0 : Int} (xo0 : isO 6 x0) {xv1 : Int32} {x1 : Int} (xt1 : xv1.toInt = x1) {k : Int → Prop} (h : wX6_isBelow S x0 x1 k) : CnI l yX6_isBelow cX6_isBelow 2 (some .boolean) 0 0 G (injC SB) [.ref (G.2.2 (x0).toNat), .int xv1] S (fun r u => k r ∧ u = S) :=
  cn_body (by decide +kernel) (Nat.le_of_ble_eq_true rfl) (fun p e s m args below meth c ls C hw hl => uX6_isBelow_0 C hw va_S.rf xo0 xt1 (lv_sub hl [0, 1] rfl) h)
set_option maxHeartbeats 4000000 in
set_option maxRecDepth 10000 in
theorem uX6_argument_0 {p : Program} {l : Launch} {e : Env} {s : State} {m : MethodId} {args : Array Value} {below : List Frame} {meth : Method} {c : Code} {G : GG} {SB : St} (C : Cx p s m args meth c G RX6 cX6_argument 3 (some .int)) {S : St} {H : Heap} {locs : List Loc} {ls : Array Slot}  {k : Int → Prop} (hw : Wd G ((injC SB) S) H) (hS : va_S (AG G) s.heap H locs) {x0 : Int} (xo0 : isO 6 x0) {xv1 : Int32} {x1 : Int} (xt1 : xv1.toInt = x1) {xv2 : Int32} {x2 : Int} (xt2 : xv2.toInt = x2) (hl : lv_has ls 3 [(0, .ref (G.2.2 (x0).toNat)), (1, .int xv1), (2, .int xv2)])  (h : wX6_argument_0 S x0 x1 x2 k) : W p l e (rmF 0 0) s m args below meth c H locs 0 0 (MQ below (QcI G (injC SB) (fun r u => k r ∧ u = S)) args s 0 0 (AG G)) (F0 m 0 ls []) := by
  refine lv_aload_n C.1.1 C.1.2.1 dX6_argument_0 rfl (lv_at hl 0 rfl) ?_
  refine y_getA C fl_X6_25 hw (oc_of SB xo0) rfl (o := 5) rfl dX6_argument_1 ?_
  refine lv_iload_n C.1.1 C.1.2.1 dX6_argument_4 rfl (lv_at hl 1 rfl) ?_
  refine y_iconst C dX6_argument_5 ⟨by decide, by decide⟩ (fun v2 t2 => ?_)
  refine y_imul C xt1 t2 dX6_argument_6 (fun v3 t3 => ?_)
  refine lv_iload_n C.1.1 C.1.2.1 dX6_argument_7 rfl (lv_at hl 2 rfl) ?_
  refine y_iadd C t3 xt2 dX6_argument_8 (fun v4 t4 => ?_)
  obtain ⟨b5, h⟩ := h
  refine y_iald C hw (ac_6_15 SB xo0) t4 b5 dX6_argument_9 (fun v5 t5 => ?_)
  exact y_iret C hw hS t5 ⟨h, rfl⟩ dX6_argument_10
theorem kX6_argument (l : Launch) (G : GG) (SB S : St) {x0 : Int} (xo0 : isO 6 x0) {xv1 : Int32} {x1 : Int} (xt1 : xv1.toInt = x1) {xv2 : Int32} {x2 : Int} (xt2 : xv2.toInt = x2) {k : Int → Prop} (h : wX6_argument S x0 x1 x2 k) : CnI l yX6_argument cX6_argument 3 (some .int) 0 0 G (injC SB) [.ref (G.2.2 (x0).toNat), .int xv1, .int xv2] S (fun r u => k r ∧ u = S) :=
  cn_body (by decide +kernel) (Nat.le_of_ble_eq_true rfl) (fun p e s m args below meth c ls C hw hl => uX6_argument_0 C hw va_S.rf xo0 xt1 xt2 (lv_sub hl [0, 1, 2] rfl) h)
set_option maxHeartbeats 4000000 in
set_option maxRecDepth 10000 in
theorem uX6_setArgument_0 {p : Program} {l : Launch} {e : Env} {s : State} {m : MethodId} {args : Array Value} {below : List Frame} {meth : Method} {c : Code} {G : GG} {SB : St} (C : Cx p s m args meth c G RX6 cX6_setArgument 4 none) {S : St} {H : Heap} {locs : List Loc} {ls : Array Slot}  {k : St → Prop} (hw : Wd G ((injC SB) S) H) (hS : va_S (AG G) s.heap H locs) {x0 : Int} (xo0 : isO 6 x0) {xv1 : Int32} {x1 : Int} (xt1 : xv1.toInt = x1) {xv2 : Int32} {x2 : Int} (xt2 : xv2.toInt = x2) {xv3 : Int32} {x3 : Int} (xt3 : xv3.toInt = x3) (hl : lv_has ls 4 [(0, .ref (G.2.2 (x0).toNat)), (1, .int xv1), (2, .int xv2), (3, .int xv3)])  (h : wX6_setArgument_0 S x0 x1 x2 x3 k) : W p l e (rmF 0 0) s m args below meth c H locs 0 0 (MQ below (QcV G (injC SB) k) args s 0 0 (AG G)) (F0 m 0 ls []) := by
  refine lv_aload_n C.1.1 C.1.2.1 dX6_setArgument_0 rfl (lv_at hl 0 rfl) ?_
  refine y_getA C fl_X6_25 hw (oc_of SB xo0) rfl (o := 5) rfl dX6_setArgument_1 ?_
  refine lv_iload_n C.1.1 C.1.2.1 dX6_setArgument_4 rfl (lv_at hl 1 rfl) ?_
  refine y_iconst C dX6_setArgument_5 ⟨by decide, by decide⟩ (fun v2 t2 => ?_)
  refine y_imul C xt1 t2 dX6_setArgument_6 (fun v3 t3 => ?_)
  refine lv_iload_n C.1.1 C.1.2.1 dX6_setArgument_7 rfl (lv_at hl 2 rfl) ?_
  refine y_iadd C t3 xt2 dX6_setArgument_8 (fun v4 t4 => ?_)
  refine lv_iload_n C.1.1 C.1.2.1 dX6_setArgument_9 rfl (lv_at hl 3 rfl) ?_
  obtain ⟨b5, h⟩ := h
  obtain ⟨S_5, e5⟩ : ∃ z : St, z = up S (x0 + 5) (w32 (w32 (x1 * 2) + x2)) x3 := ⟨_, rfl⟩
  have h := h S_5 e5
  refine y_iast C hw hS (ac_6_15 SB xo0) t4 xt3 b5 dX6_setArgument_10 (fun H locs hw hS => ?_)
  have hw : Wd G ((injC SB) S_5) H := by rw [e5]; exact hw
  exact y_vret C hw hS h dX6_setArgument_11
theorem kX6_setArgument (l : Launch) (G : GG) (SB S : St) {x0 : Int} (xo0 : isO 6 x0) {xv1 : Int32} {x1 : Int} (xt1 : xv1.toInt = x1) {xv2 : Int32} {x2 : Int} (xt2 : xv2.toInt = x2) {xv3 : Int32} {x3 : Int} (xt3 : xv3.toInt = x3) {k : St → Prop} (h : wX6_setArgument S x0 x1 x2 x3 k) : CnV l yX6_setArgument cX6_setArgument 4 none 0 0 G (injC SB) [.ref (G.2.2 (x0).toNat), .int xv1, .int xv2, .int xv3] S k :=
  cn_body (by decide +kernel) (Nat.le_of_ble_eq_true rfl) (fun p e s m args below meth c ls C hw hl => uX6_setArgument_0 C hw va_S.rf xo0 xt1 xt2 xt3 (lv_sub hl [0, 1, 2, 3] rfl) h)
set_option maxHeartbeats 4000000 in
set_option maxRecDepth 10000 in
theorem uX2_isUnder_0 {p : Program} {l : Launch} {e : Env} {s : State} {m : MethodId} {args : Array Value} {below : List Frame} {meth : Method} {c : Code} {G : GG} {SB : St} (C : Cx p s m args meth c G RX2 cX2_isUnder 3 (some .boolean)) {S : St} {H : Heap} {locs : List Loc} {ls : Array Slot}  {k : Int → Prop} (hw : Wd G ((injC SB) S) H) (hS : va_S (AG G) s.heap H locs) {x0 : Int} (xo0 : isO 2 x0) {xv1 : Int32} {x1 : Int} (xt1 : xv1.toInt = x1) {xv2 : Int32} {x2 : Int} (xt2 : xv2.toInt = x2) (hl : lv_has ls 3 [(0, .ref (G.2.2 (x0).toNat)), (1, .int xv1), (2, .int xv2)])  (h : wX2_isUnder_0 S x0 x1 x2 k) : W p l e (rmF 0 0) s m args below meth c H locs 0 0 (MQ below (QcI G (injC SB) (fun r u => k r ∧ u = S)) args s 0 0 (AG G)) (F0 m 0 ls []) := by
  refine lv_iload_n C.1.1 C.1.2.1 dX2_isUnder_0 rfl (lv_at hl 1 rfl) ?_
  refine lv_iload_n C.1.1 C.1.2.1 dX2_isUnder_1 rfl (lv_at hl 2 rfl) ?_
  refine y_icmp_eq C xt1 xt2 dX2_isUnder_2 (tgt := 21) (by decide) (fun c1 => ?_) (fun c1 => ?_)
  · have h := h.1 c1
    refine y_iconst C dX2_isUnder_21 ⟨by decide, by decide⟩ (fun v2 t2 => ?_)
    refine lv_goto (tgt := 26) C.1.1 C.1.2.1 dX2_isUnder_22 (by decide) ?_
    exact y_zret C hw hS t2 (Or.inr rfl) ⟨h, rfl⟩ dX2_isUnder_26
  · have h := h.2 c1
    refine lv_aload_n C.1.1 C.1.2.1 dX2_isUnder_5 rfl (lv_at hl 0 rfl) ?_
    refine y_getA C fl_X2_11 hw (oc_of SB xo0) rfl (o := 1) rfl dX2_isUnder_6 ?_
    refine lv_iload_n C.1.1 C.1.2.1 dX2_isUnder_9 rfl (lv_at hl 1 rfl) ?_
    obtain ⟨b4, h⟩ := h
    obtain ⟨x_4, e4⟩ : ∃ z : Int, z = x0 + 6 + 6 * x1 := ⟨_, rfl⟩
    have h := h x_4 e4
    have o4 : isO 6 x_4 := isO_ty xo0 b4 e4
    refine y_tyO C hw xo0 xt1 b4 e4 dX2_isUnder_10 ?_
    refine y_getI C fl_X2_51 hw (oc_of SB o4) rfl dX2_isUnder_11 (fun v5 t5 => ?_)
    refine lv_iload_n C.1.1 C.1.2.1 dX2_isUnder_14 rfl (lv_at hl 2 rfl) ?_
    refine y_iushr C t5 xt2 dX2_isUnder_15 (fun v6 t6 => ?_)
    refine y_iconst C dX2_isUnder_16 ⟨by decide, by decide⟩ (fun v7 t7 => ?_)
    refine y_iand C t6 t7 dX2_isUnder_17 (fun v8 t8 => ?_)
    refine y_if_eq C t8 dX2_isUnder_18 (tgt := 25) (by decide) (fun c9 => ?_) (fun c9 => ?_)
    · have h := h.1 c9
      refine y_iconst C dX2_isUnder_25 ⟨by decide, by decide⟩ (fun v10 t10 => ?_)
      exact y_zret C hw hS t10 (Or.inl rfl) ⟨h, rfl⟩ dX2_isUnder_26
    · have h := h.2 c9
      refine y_iconst C dX2_isUnder_21 ⟨by decide, by decide⟩ (fun v11 t11 => ?_)
      refine lv_goto (tgt := 26) C.1.1 C.1.2.1 dX2_isUnder_22 (by decide) ?_
      exact y_zret C hw hS t11 (Or.inr rfl) ⟨h, rfl⟩ dX2_isUnder_26
theorem kX2_isUnder (l : Launch) (G : GG) (SB S : St) {x0 : Int} (xo0 : isO 2 x0) {xv1 : Int32} {x1 : Int} (xt1 : xv1.toInt = x1) {xv2 : Int32} {x2 : Int} (xt2 : xv2.toInt = x2) {k : Int → Prop} (h : wX2_isUnder S x0 x1 x2 k) : CnI l yX2_isUnder cX2_isUnder 3 (some .boolean) 0 0 G (injC SB) [.ref (G.2.2 (x0).toNat), .int xv1, .int xv2] S (fun r u => k r ∧ u = S) :=
  cn_body (by decide +kernel) (Nat.le_of_ble_eq_true rfl) (fun p e s m args below meth c ls C hw hl => uX2_isUnder_0 C hw va_S.rf xo0 xt1 xt2 (lv_sub hl [0, 1, 2] rfl) h)
set_option maxHeartbeats 4000000 in
set_option maxRecDepth 10000 in
theorem uX2_kindSeen_0 {p : Program} {l : Launch} {e : Env} {s : State} {m : MethodId} {args : Array Value} {below : List Frame} {meth : Method} {c : Code} {G : GG} {SB : St} (C : Cx p s m args meth c G RX2 cX2_kindSeen 5 (some .int)) {S : St} {H : Heap} {locs : List Loc} {ls : Array Slot}  {k : Int → Prop} (hw : Wd G ((injC SB) S) H) (hS : va_S (AG G) s.heap H locs) {x1 : Int} (xo1 : isO 6 x1) {x2 : Int} (xo2 : isO 3 x2) {xv3 : Int32} {x3 : Int} (xt3 : xv3.toInt = x3) (hl : lv_has ls 5 [(1, .ref (G.2.2 (x1).toNat)), (2, .ref (G.2.2 (x2).toNat)), (3, .int xv3)])  (h : wX2_kindSeen_0 S x1 x2 x3 k) : W p l e (rmF 0 0) s m args below meth c H locs 0 0 (MQ below (QcI G (injC SB) (fun r u => k r ∧ u = S)) args s 0 0 (AG G)) (F0 m 0 ls []) := by
  refine lv_aload_n C.1.1 C.1.2.1 dX2_kindSeen_0 rfl (lv_at hl 1 rfl) ?_
  refine y_getA C fl_X2_63 hw (oc_of SB xo2) rfl (o := 1) rfl dX2_kindSeen_1 ?_
  refine lv_iload_n C.1.1 C.1.2.1 dX2_kindSeen_4 rfl (lv_at hl 2 rfl) ?_
  obtain ⟨b2, h⟩ := h
  refine y_iald C hw (ac_3_5 SB xo2) xt3 b2 dX2_kindSeen_5 (fun v2 t2 => ?_)
  obtain ⟨x_3, e3⟩ : ∃ z : Int, z = S (x2 + 1) x3 := ⟨_, rfl⟩
  have h := h x_3 e3
  have t3 := t2.trans e3.symm
  refine lv_istore (lv' := [(4, .int v2), (1, .ref (G.2.2 (x1).toNat)), (2, .ref (G.2.2 (x2).toNat)), (3, .int xv3)]) C.1.1 C.1.2.1 dX2_kindSeen_6 hl (by decide) rfl (fun ls hl => ?_)
  refine lv_iload C.1.1 C.1.2.1 dX2_kindSeen_8 (lv_at hl 0 rfl) ?_
  refine y_bipush C dX2_kindSeen_10 ⟨by decide, by decide⟩ (fun v4 t4 => ?_)
  refine y_icmp_lt C t3 t4 dX2_kindSeen_12 (tgt := 35) (by decide) (fun c5 => ?_) (fun c5 => ?_)
  · have h := h.1 c5
    refine lv_iload C.1.1 C.1.2.1 dX2_kindSeen_35 (lv_at hl 0 rfl) ?_
    exact y_iret C hw hS t3 ⟨h, rfl⟩ dX2_kindSeen_37
  · have h := h.2 c5
    refine lv_aload_n C.1.1 C.1.2.1 dX2_kindSeen_15 rfl (lv_at hl 1 rfl) ?_
    refine y_getA C fl_X2_66 hw (oc_of SB xo1) rfl (o := 5) rfl dX2_kindSeen_16 ?_
    refine lv_aload_n C.1.1 C.1.2.1 dX2_kindSeen_19 rfl (lv_at hl 2 rfl) ?_
    refine y_getI C fl_X2_69 hw (oc_of SB xo2) rfl dX2_kindSeen_20 (fun v7 t7 => ?_)
    refine y_iconst C dX2_kindSeen_23 ⟨by decide, by decide⟩ (fun v8 t8 => ?_)
    refine y_imul C t7 t8 dX2_kindSeen_24 (fun v9 t9 => ?_)
    refine lv_iload C.1.1 C.1.2.1 dX2_kindSeen_25 (lv_at hl 0 rfl) ?_
    refine y_iadd C t9 t3 dX2_kindSeen_27 (fun v10 t10 => ?_)
    refine y_bipush C dX2_kindSeen_28 ⟨by decide, by decide⟩ (fun v11 t11 => ?_)
    refine y_isub C t10 t11 dX2_kindSeen_30 (fun v12 t12 => ?_)
    obtain ⟨b13, h⟩ := h
    refine y_iald C hw (ac_6_15 SB xo1) t12 b13 dX2_kindSeen_31 (fun v13 t13 => ?_)
    refine lv_goto (tgt := 37) C.1.1 C.1.2.1 dX2_kindSeen_32 (by decide) ?_
    exact y_iret C hw hS t13 ⟨h, rfl⟩ dX2_kindSeen_37
theorem kX2_kindSeen (l : Launch) (G : GG) (SB S : St) {x0 : Int} (xo0 : isO 2 x0) {x1 : Int} (xo1 : isO 6 x1) {x2 : Int} (xo2 : isO 3 x2) {xv3 : Int32} {x3 : Int} (xt3 : xv3.toInt = x3) {k : Int → Prop} (h : wX2_kindSeen S x0 x1 x2 x3 k) : CnI l yX2_kindSeen cX2_kindSeen 5 (some .int) 0 0 G (injC SB) [.ref (G.2.2 (x0).toNat), .ref (G.2.2 (x1).toNat), .ref (G.2.2 (x2).toNat), .int xv3] S (fun r u => k r ∧ u = S) :=
  cn_body (by decide +kernel) (Nat.le_of_ble_eq_true rfl) (fun p e s m args below meth c ls C hw hl => uX2_kindSeen_0 C hw va_S.rf xo1 xo2 xt3 (lv_sub hl [1, 2, 3] rfl) h)
set_option maxHeartbeats 4000000 in
set_option maxRecDepth 10000 in
theorem uX3_isFree_0 {p : Program} {l : Launch} {e : Env} {s : State} {m : MethodId} {args : Array Value} {below : List Frame} {meth : Method} {c : Code} {G : GG} {SB : St} (C : Cx p s m args meth c G RX3 cX3_isFree 1 (some .boolean)) {S : St} {H : Heap} {locs : List Loc} {ls : Array Slot}  {k : Int → Prop} (hw : Wd G ((injC SB) S) H) (hS : va_S (AG G) s.heap H locs) {x0 : Int} (xo0 : isO 3 x0) (hl : lv_has ls 1 [(0, .ref (G.2.2 (x0).toNat))])  (h : wX3_isFree_0 S x0 k) : W p l e (rmF 0 0) s m args below meth c H locs 0 0 (MQ below (QcI G (injC SB) (fun r u => k r ∧ u = S)) args s 0 0 (AG G)) (F0 m 0 ls []) := by
  refine lv_aload_n C.1.1 C.1.2.1 dX3_isFree_0 rfl (lv_at hl 0 rfl) ?_
  refine y_getI C fl_X3_26 hw (oc_of SB xo0) rfl dX3_isFree_1 (fun v1 t1 => ?_)
  refine y_if_eq C t1 dX3_isFree_4 (tgt := 19) (by decide) (fun c2 => ?_) (fun c2 => ?_)
  · have h := h.1 c2
    refine y_iconst C dX3_isFree_19 ⟨by decide, by decide⟩ (fun v3 t3 => ?_)
    exact y_zret C hw hS t3 (Or.inl rfl) ⟨h, rfl⟩ dX3_isFree_20
  · have h := h.2 c2
    refine lv_aload_n C.1.1 C.1.2.1 dX3_isFree_7 rfl (lv_at hl 0 rfl) ?_
    refine y_getI C fl_X3_29 hw (oc_of SB xo0) rfl dX3_isFree_8 (fun v4 t4 => ?_)
    refine y_iconst C dX3_isFree_11 ⟨by decide, by decide⟩ (fun v5 t5 => ?_)
    refine y_icmp_eq C t4 t5 dX3_isFree_12 (tgt := 19) (by decide) (fun c6 => ?_) (fun c6 => ?_)
    · have h := h.1 c6
      refine y_iconst C dX3_isFree_19 ⟨by decide, by decide⟩ (fun v7 t7 => ?_)
      exact y_zret C hw hS t7 (Or.inl rfl) ⟨h, rfl⟩ dX3_isFree_20
    · have h := h.2 c6
      refine y_iconst C dX3_isFree_15 ⟨by decide, by decide⟩ (fun v8 t8 => ?_)
      refine lv_goto (tgt := 20) C.1.1 C.1.2.1 dX3_isFree_16 (by decide) ?_
      exact y_zret C hw hS t8 (Or.inr rfl) ⟨h, rfl⟩ dX3_isFree_20
theorem kX3_isFree (l : Launch) (G : GG) (SB S : St) {x0 : Int} (xo0 : isO 3 x0) {k : Int → Prop} (h : wX3_isFree S x0 k) : CnI l yX3_isFree cX3_isFree 1 (some .boolean) 0 0 G (injC SB) [.ref (G.2.2 (x0).toNat)] S (fun r u => k r ∧ u = S) :=
  cn_body (by decide +kernel) (Nat.le_of_ble_eq_true rfl) (fun p e s m args below meth c ls C hw hl => uX3_isFree_0 C hw va_S.rf xo0 (lv_sub hl [0] rfl) h)
set_option maxHeartbeats 4000000 in
set_option maxRecDepth 10000 in
theorem uX2_samePackage_0 {p : Program} {l : Launch} {e : Env} {s : State} {m : MethodId} {args : Array Value} {below : List Frame} {meth : Method} {c : Code} {G : GG} {SB : St} (C : Cx p s m args meth c G RX2 cX2_samePackage 3 (some .boolean)) {S : St} {H : Heap} {locs : List Loc} {ls : Array Slot}  {k : Int → Prop} (hw : Wd G ((injC SB) S) H) (hS : va_S (AG G) s.heap H locs) {x0 : Int} (xo0 : isO 2 x0) {xv1 : Int32} {x1 : Int} (xt1 : xv1.toInt = x1) {xv2 : Int32} {x2 : Int} (xt2 : xv2.toInt = x2) (hl : lv_has ls 3 [(0, .ref (G.2.2 (x0).toNat)), (1, .int xv1), (2, .int xv2)])  (h : wX2_samePackage_0 S x0 x1 x2 k) : W p l e (rmF 0 0) s m args below meth c H locs 0 0 (MQ below (QcI G (injC SB) (fun r u => k r ∧ u = S)) args s 0 0 (AG G)) (F0 m 0 ls []) := by
  refine lv_aload_n C.1.1 C.1.2.1 dX2_samePackage_0 rfl (lv_at hl 0 rfl) ?_
  refine y_getA C fl_X2_11 hw (oc_of SB xo0) rfl (o := 1) rfl dX2_samePackage_1 ?_
  refine lv_iload_n C.1.1 C.1.2.1 dX2_samePackage_4 rfl (lv_at hl 1 rfl) ?_
  obtain ⟨b2, h⟩ := h
  obtain ⟨x_2, e2⟩ : ∃ z : Int, z = x0 + 6 + 6 * x1 := ⟨_, rfl⟩
  have h := h x_2 e2
  have o2 : isO 6 x_2 := isO_ty xo0 b2 e2
  refine y_tyO C hw xo0 xt1 b2 e2 dX2_samePackage_5 ?_
  refine y_getI C fl_X2_54 hw (oc_of SB o2) rfl dX2_samePackage_6 (fun v3 t3 => ?_)
  refine lv_aload_n C.1.1 C.1.2.1 dX2_samePackage_9 rfl (lv_at hl 0 rfl) ?_
  refine y_getA C fl_X2_11 hw (oc_of SB xo0) rfl (o := 1) rfl dX2_samePackage_10 ?_
  refine lv_iload_n C.1.1 C.1.2.1 dX2_samePackage_13 rfl (lv_at hl 2 rfl) ?_
  obtain ⟨b5, h⟩ := h
  obtain ⟨x_5, e5⟩ : ∃ z : Int, z = x0 + 6 + 6 * x2 := ⟨_, rfl⟩
  have h := h x_5 e5
  have o5 : isO 6 x_5 := isO_ty xo0 b5 e5
  refine y_tyO C hw xo0 xt2 b5 e5 dX2_samePackage_14 ?_
  refine y_getI C fl_X2_54 hw (oc_of SB o5) rfl dX2_samePackage_15 (fun v6 t6 => ?_)
  refine y_icmp_ne C t3 t6 dX2_samePackage_18 (tgt := 46) (by decide) (fun c7 => ?_) (fun c7 => ?_)
  · have h := h.1 c7
    refine y_iconst C dX2_samePackage_46 ⟨by decide, by decide⟩ (fun v8 t8 => ?_)
    exact y_zret C hw hS t8 (Or.inl rfl) ⟨h, rfl⟩ dX2_samePackage_47
  · have h := h.2 c7
    refine lv_aload_n C.1.1 C.1.2.1 dX2_samePackage_21 rfl (lv_at hl 0 rfl) ?_
    refine y_getA C fl_X2_11 hw (oc_of SB xo0) rfl (o := 1) rfl dX2_samePackage_22 ?_
    refine lv_iload_n C.1.1 C.1.2.1 dX2_samePackage_25 rfl (lv_at hl 1 rfl) ?_
    obtain ⟨b10, h⟩ := h
    obtain ⟨x_10, e10⟩ : ∃ z : Int, z = x0 + 6 + 6 * x1 := ⟨_, rfl⟩
    have h := h x_10 e10
    have o10 : isO 6 x_10 := isO_ty xo0 b10 e10
    refine y_tyO C hw xo0 xt1 b10 e10 dX2_samePackage_26 ?_
    refine y_getI C fl_X2_57 hw (oc_of SB o10) rfl dX2_samePackage_27 (fun v11 t11 => ?_)
    refine lv_aload_n C.1.1 C.1.2.1 dX2_samePackage_30 rfl (lv_at hl 0 rfl) ?_
    refine y_getA C fl_X2_11 hw (oc_of SB xo0) rfl (o := 1) rfl dX2_samePackage_31 ?_
    refine lv_iload_n C.1.1 C.1.2.1 dX2_samePackage_34 rfl (lv_at hl 2 rfl) ?_
    obtain ⟨b13, h⟩ := h
    obtain ⟨x_13, e13⟩ : ∃ z : Int, z = x0 + 6 + 6 * x2 := ⟨_, rfl⟩
    have h := h x_13 e13
    have o13 : isO 6 x_13 := isO_ty xo0 b13 e13
    refine y_tyO C hw xo0 xt2 b13 e13 dX2_samePackage_35 ?_
    refine y_getI C fl_X2_57 hw (oc_of SB o13) rfl dX2_samePackage_36 (fun v14 t14 => ?_)
    refine y_icmp_ne C t11 t14 dX2_samePackage_39 (tgt := 46) (by decide) (fun c15 => ?_) (fun c15 => ?_)
    · have h := h.1 c15
      refine y_iconst C dX2_samePackage_46 ⟨by decide, by decide⟩ (fun v16 t16 => ?_)
      exact y_zret C hw hS t16 (Or.inl rfl) ⟨h, rfl⟩ dX2_samePackage_47
    · have h := h.2 c15
      refine y_iconst C dX2_samePackage_42 ⟨by decide, by decide⟩ (fun v17 t17 => ?_)
      refine lv_goto (tgt := 47) C.1.1 C.1.2.1 dX2_samePackage_43 (by decide) ?_
      exact y_zret C hw hS t17 (Or.inr rfl) ⟨h, rfl⟩ dX2_samePackage_47
theorem kX2_samePackage (l : Launch) (G : GG) (SB S : St) {x0 : Int} (xo0 : isO 2 x0) {xv1 : Int32} {x1 : Int} (xt1 : xv1.toInt = x1) {xv2 : Int32} {x2 : Int} (xt2 : xv2.toInt = x2) {k : Int → Prop} (h : wX2_samePackage S x0 x1 x2 k) : CnI l yX2_samePackage cX2_samePackage 3 (some .boolean) 0 0 G (injC SB) [.ref (G.2.2 (x0).toNat), .int xv1, .int xv2] S (fun r u => k r ∧ u = S) :=
  cn_body (by decide +kernel) (Nat.le_of_ble_eq_true rfl) (fun p e s m args below meth c ls C hw hl => uX2_samePackage_0 C hw va_S.rf xo0 xt1 xt2 (lv_sub hl [0, 1, 2] rfl) h)
set_option maxHeartbeats 4000000 in
set_option maxRecDepth 10000 in
theorem uX2_hasOverride_0 {p : Program} {l : Launch} {e : Env} {s : State} {m : MethodId} {args : Array Value} {below : List Frame} {meth : Method} {c : Code} {G : GG} {SB : St} (C : Cx p s m args meth c G RX2 cX2_hasOverride 3 (some .boolean)) {S : St} {H : Heap} {locs : List Loc} {ls : Array Slot}  {k : Int → Prop} (hw : Wd G ((injC SB) S) H) (hS : va_S (AG G) s.heap H locs) {x0 : Int} (xo0 : isO 2 x0) {xv1 : Int32} {x1 : Int} (xt1 : xv1.toInt = x1) {xv2 : Int32} {x2 : Int} (xt2 : xv2.toInt = x2) (hl : lv_has ls 3 [(0, .ref (G.2.2 (x0).toNat)), (1, .int xv1), (2, .int xv2)])  (h : wX2_hasOverride_0 S x0 x1 x2 k) : W p l e (rmF 0 0) s m args below meth c H locs 0 0 (MQ below (QcI G (injC SB) (fun r u => k r ∧ u = S)) args s 0 0 (AG G)) (F0 m 0 ls []) := by
  refine lv_aload_n C.1.1 C.1.2.1 dX2_hasOverride_0 rfl (lv_at hl 0 rfl) ?_
  refine y_getA C fl_X2_23 hw (oc_of SB xo0) rfl (o := 3) rfl dX2_hasOverride_1 ?_
  refine lv_iload_n C.1.1 C.1.2.1 dX2_hasOverride_4 rfl (lv_at hl 1 rfl) ?_
  refine y_iconst C dX2_hasOverride_5 ⟨by decide, by decide⟩ (fun v2 t2 => ?_)
  refine y_imul C xt1 t2 dX2_hasOverride_6 (fun v3 t3 => ?_)
  refine lv_iload_n C.1.1 C.1.2.1 dX2_hasOverride_7 rfl (lv_at hl 2 rfl) ?_
  refine y_bipush C dX2_hasOverride_8 ⟨by decide, by decide⟩ (fun v4 t4 => ?_)
  refine y_ishr C xt2 t4 dX2_hasOverride_10 (fun v5 t5 => ?_)
  refine y_iadd C t3 t5 dX2_hasOverride_11 (fun v6 t6 => ?_)
  obtain ⟨b7, h⟩ := h
  refine y_lald C hw (ac_2_4 SB xo0) t6 b7 dX2_hasOverride_12 (fun v7 t7 => ?_)
  refine lv_iload_n C.1.1 C.1.2.1 dX2_hasOverride_13 rfl (lv_at hl 2 rfl) ?_
  refine y_bipush C dX2_hasOverride_14 ⟨by decide, by decide⟩ (fun v8 t8 => ?_)
  refine y_iand C xt2 t8 dX2_hasOverride_16 (fun v9 t9 => ?_)
  refine y_lushr C t7 t9 dX2_hasOverride_17 (fun v10 t10 => ?_)
  refine y_lconst1 C dX2_hasOverride_18 (fun v11 t11 => ?_)
  refine y_land C t10 t11 dX2_hasOverride_19 (fun v12 t12 => ?_)
  refine y_lconst0 C dX2_hasOverride_20 (fun v13 t13 => ?_)
  refine y_lcmp C t12 t13 dX2_hasOverride_21 (fun v14 t14 => ?_)
  refine y_if_eq C t14 dX2_hasOverride_22 (tgt := 29) (by decide) (fun c15 => ?_) (fun c15 => ?_)
  · have c15 := cmp_eq.mp c15
    have h := h.1 c15
    refine y_iconst C dX2_hasOverride_29 ⟨by decide, by decide⟩ (fun v16 t16 => ?_)
    exact y_zret C hw hS t16 (Or.inl rfl) ⟨h, rfl⟩ dX2_hasOverride_30
  · have c15 := cmp_ne.mp c15
    have h := h.2 c15
    refine y_iconst C dX2_hasOverride_25 ⟨by decide, by decide⟩ (fun v17 t17 => ?_)
    refine lv_goto (tgt := 30) C.1.1 C.1.2.1 dX2_hasOverride_26 (by decide) ?_
    exact y_zret C hw hS t17 (Or.inr rfl) ⟨h, rfl⟩ dX2_hasOverride_30
theorem kX2_hasOverride (l : Launch) (G : GG) (SB S : St) {x0 : Int} (xo0 : isO 2 x0) {xv1 : Int32} {x1 : Int} (xt1 : xv1.toInt = x1) {xv2 : Int32} {x2 : Int} (xt2 : xv2.toInt = x2) {k : Int → Prop} (h : wX2_hasOverride S x0 x1 x2 k) : CnI l yX2_hasOverride cX2_hasOverride 3 (some .boolean) 0 0 G (injC SB) [.ref (G.2.2 (x0).toNat), .int xv1, .int xv2] S (fun r u => k r ∧ u = S) :=
  cn_body (by decide +kernel) (Nat.le_of_ble_eq_true rfl) (fun p e s m args below meth c ls C hw hl => uX2_hasOverride_0 C hw va_S.rf xo0 xt1 xt2 (lv_sub hl [0, 1, 2] rfl) h)
set_option maxHeartbeats 4000000 in
set_option maxRecDepth 10000 in
theorem uX2_setOverride_0 {p : Program} {l : Launch} {e : Env} {s : State} {m : MethodId} {args : Array Value} {below : List Frame} {meth : Method} {c : Code} {G : GG} {SB : St} (C : Cx p s m args meth c G RX2 cX2_setOverride 3 none) {S : St} {H : Heap} {locs : List Loc} {ls : Array Slot}  {k : St → Prop} (hw : Wd G ((injC SB) S) H) (hS : va_S (AG G) s.heap H locs) {x0 : Int} (xo0 : isO 2 x0) {xv1 : Int32} {x1 : Int} (xt1 : xv1.toInt = x1) {xv2 : Int32} {x2 : Int} (xt2 : xv2.toInt = x2) (hl : lv_has ls 3 [(0, .ref (G.2.2 (x0).toNat)), (1, .int xv1), (2, .int xv2)])  (h : wX2_setOverride_0 S x0 x1 x2 k) : W p l e (rmF 0 0) s m args below meth c H locs 0 0 (MQ below (QcV G (injC SB) k) args s 0 0 (AG G)) (F0 m 0 ls []) := by
  refine lv_aload_n C.1.1 C.1.2.1 dX2_setOverride_0 rfl (lv_at hl 0 rfl) ?_
  refine y_getA C fl_X2_23 hw (oc_of SB xo0) rfl (o := 3) rfl dX2_setOverride_1 ?_
  refine lv_iload_n C.1.1 C.1.2.1 dX2_setOverride_4 rfl (lv_at hl 1 rfl) ?_
  refine y_iconst C dX2_setOverride_5 ⟨by decide, by decide⟩ (fun v2 t2 => ?_)
  refine y_imul C xt1 t2 dX2_setOverride_6 (fun v3 t3 => ?_)
  refine lv_iload_n C.1.1 C.1.2.1 dX2_setOverride_7 rfl (lv_at hl 2 rfl) ?_
  refine y_bipush C dX2_setOverride_8 ⟨by decide, by decide⟩ (fun v4 t4 => ?_)
  refine y_ishr C xt2 t4 dX2_setOverride_10 (fun v5 t5 => ?_)
  refine y_iadd C t3 t5 dX2_setOverride_11 (fun v6 t6 => ?_)
  refine lv_dup2_11 C.1.1 C.1.2.1 dX2_setOverride_12 rfl rfl ?_
  obtain ⟨b7, h⟩ := h
  refine y_lald C hw (ac_2_4 SB xo0) t6 b7 dX2_setOverride_13 (fun v7 t7 => ?_)
  refine y_lconst1 C dX2_setOverride_14 (fun v8 t8 => ?_)
  refine lv_iload_n C.1.1 C.1.2.1 dX2_setOverride_15 rfl (lv_at hl 2 rfl) ?_
  refine y_bipush C dX2_setOverride_16 ⟨by decide, by decide⟩ (fun v9 t9 => ?_)
  refine y_iand C xt2 t9 dX2_setOverride_18 (fun v10 t10 => ?_)
  refine y_lshl C t8 t10 dX2_setOverride_19 (fun v11 t11 => ?_)
  refine y_lor C t7 t11 dX2_setOverride_20 (fun v12 t12 => ?_)
  obtain ⟨b13, h⟩ := h
  obtain ⟨S_13, e13⟩ : ∃ z : St, z = up S (x0 + 3) (w32 (w32 (x1 * 2) + shr32 x2 6)) (or64 (S (x0 + 3) (w32 (w32 (x1 * 2) + shr32 x2 6))) (shl64 1 (and32 x2 63))) := ⟨_, rfl⟩
  have h := h S_13 e13
  refine y_last C hw hS (ac_2_4 SB xo0) t6 t12 b13 dX2_setOverride_21 (fun H locs hw hS => ?_)
  have hw : Wd G ((injC SB) S_13) H := by rw [e13]; exact hw
  exact y_vret C hw hS h dX2_setOverride_22
theorem kX2_setOverride (l : Launch) (G : GG) (SB S : St) {x0 : Int} (xo0 : isO 2 x0) {xv1 : Int32} {x1 : Int} (xt1 : xv1.toInt = x1) {xv2 : Int32} {x2 : Int} (xt2 : xv2.toInt = x2) {k : St → Prop} (h : wX2_setOverride S x0 x1 x2 k) : CnV l yX2_setOverride cX2_setOverride 3 none 0 0 G (injC SB) [.ref (G.2.2 (x0).toNat), .int xv1, .int xv2] S k :=
  cn_body (by decide +kernel) (Nat.le_of_ble_eq_true rfl) (fun p e s m args below meth c ls C hw hl => uX2_setOverride_0 C hw va_S.rf xo0 xt1 xt2 (lv_sub hl [0, 1, 2] rfl) h)
set_option maxHeartbeats 4000000 in
set_option maxRecDepth 10000 in
theorem uX3_isOwn_0 {p : Program} {l : Launch} {e : Env} {s : State} {m : MethodId} {args : Array Value} {below : List Frame} {meth : Method} {c : Code} {G : GG} {SB : St} (C : Cx p s m args meth c G RX3 cX3_isOwn 1 (some .boolean)) {S : St} {H : Heap} {locs : List Loc} {ls : Array Slot}  {k : Int → Prop} (hw : Wd G ((injC SB) S) H) (hS : va_S (AG G) s.heap H locs) {x0 : Int} (xo0 : isO 3 x0) (hl : lv_has ls 1 [(0, .ref (G.2.2 (x0).toNat))])  (h : wX3_isOwn_0 S x0 k) : W p l e (rmF 0 0) s m args below meth c H locs 0 0 (MQ below (QcI G (injC SB) (fun r u => k r ∧ u = S)) args s 0 0 (AG G)) (F0 m 0 ls []) := by
  refine lv_aload_n C.1.1 C.1.2.1 dX3_isOwn_0 rfl (lv_at hl 0 rfl) ?_
  refine y_getI C fl_X3_26 hw (oc_of SB xo0) rfl dX3_isOwn_1 (fun v1 t1 => ?_)
  refine y_if_ne C t1 dX3_isOwn_4 (tgt := 11) (by decide) (fun c2 => ?_) (fun c2 => ?_)
  · have h := h.1 c2
    refine y_iconst C dX3_isOwn_11 ⟨by decide, by decide⟩ (fun v3 t3 => ?_)
    exact y_zret C hw hS t3 (Or.inl rfl) ⟨h, rfl⟩ dX3_isOwn_12
  · have h := h.2 c2
    refine y_iconst C dX3_isOwn_7 ⟨by decide, by decide⟩ (fun v4 t4 => ?_)
    refine lv_goto (tgt := 12) C.1.1 C.1.2.1 dX3_isOwn_8 (by decide) ?_
    exact y_zret C hw hS t4 (Or.inr rfl) ⟨h, rfl⟩ dX3_isOwn_12
theorem kX3_isOwn (l : Launch) (G : GG) (SB S : St) {x0 : Int} (xo0 : isO 3 x0) {k : Int → Prop} (h : wX3_isOwn S x0 k) : CnI l yX3_isOwn cX3_isOwn 1 (some .boolean) 0 0 G (injC SB) [.ref (G.2.2 (x0).toNat)] S (fun r u => k r ∧ u = S) :=
  cn_body (by decide +kernel) (Nat.le_of_ble_eq_true rfl) (fun p e s m args below meth c ls C hw hl => uX3_isOwn_0 C hw va_S.rf xo0 (lv_sub hl [0] rfl) h)
set_option maxHeartbeats 4000000 in
set_option maxRecDepth 10000 in
theorem uX3_isStatic_0 {p : Program} {l : Launch} {e : Env} {s : State} {m : MethodId} {args : Array Value} {below : List Frame} {meth : Method} {c : Code} {G : GG} {SB : St} (C : Cx p s m args meth c G RX3 cX3_isStatic 1 (some .boolean)) {S : St} {H : Heap} {locs : List Loc} {ls : Array Slot}  {k : Int → Prop} (hw : Wd G ((injC SB) S) H) (hS : va_S (AG G) s.heap H locs) {x0 : Int} (xo0 : isO 3 x0) (hl : lv_has ls 1 [(0, .ref (G.2.2 (x0).toNat))])  (h : wX3_isStatic_0 S x0 k) : W p l e (rmF 0 0) s m args below meth c H locs 0 0 (MQ below (QcI G (injC SB) (fun r u => k r ∧ u = S)) args s 0 0 (AG G)) (F0 m 0 ls []) := by
  refine lv_aload_n C.1.1 C.1.2.1 dX3_isStatic_0 rfl (lv_at hl 0 rfl) ?_
  refine y_getI C fl_X3_29 hw (oc_of SB xo0) rfl dX3_isStatic_1 (fun v1 t1 => ?_)
  refine y_iconst C dX3_isStatic_4 ⟨by decide, by decide⟩ (fun v2 t2 => ?_)
  refine y_icmp_ne C t1 t2 dX3_isStatic_5 (tgt := 12) (by decide) (fun c3 => ?_) (fun c3 => ?_)
  · have h := h.1 c3
    refine y_iconst C dX3_isStatic_12 ⟨by decide, by decide⟩ (fun v4 t4 => ?_)
    exact y_zret C hw hS t4 (Or.inl rfl) ⟨h, rfl⟩ dX3_isStatic_13
  · have h := h.2 c3
    refine y_iconst C dX3_isStatic_8 ⟨by decide, by decide⟩ (fun v5 t5 => ?_)
    refine lv_goto (tgt := 13) C.1.1 C.1.2.1 dX3_isStatic_9 (by decide) ?_
    exact y_zret C hw hS t5 (Or.inr rfl) ⟨h, rfl⟩ dX3_isStatic_13
theorem kX3_isStatic (l : Launch) (G : GG) (SB S : St) {x0 : Int} (xo0 : isO 3 x0) {k : Int → Prop} (h : wX3_isStatic S x0 k) : CnI l yX3_isStatic cX3_isStatic 1 (some .boolean) 0 0 G (injC SB) [.ref (G.2.2 (x0).toNat)] S (fun r u => k r ∧ u = S) :=
  cn_body (by decide +kernel) (Nat.le_of_ble_eq_true rfl) (fun p e s m args below meth c ls C hw hl => uX3_isStatic_0 C hw va_S.rf xo0 (lv_sub hl [0] rfl) h)
set_option maxHeartbeats 4000000 in
set_option maxRecDepth 10000 in
theorem uX2_methodIn_62_b {p : Program} {l : Launch} {e : Env} {s : State} {m : MethodId} {args : Array Value} {below : List Frame} {meth : Method} {c : Code} {G : GG} {SB : St} (C : Cx p s m args meth c G RX2 cX2_methodIn 6 (some .int)) {S : St} {H : Heap} {locs : List Loc} {ls : Array Slot}  {P62 : Int → Prop} {k : Int → Prop} (hw : Wd G ((injC SB) S) H) (hS : va_S (AG G) s.heap H locs) {x0 : Int} (xo0 : isO 2 x0) {xv2 : Int32} {x2 : Int} (xt2 : xv2.toInt = x2) {xv4 : Int32} {x4 : Int} (xt4 : xv4.toInt = x4) {xv5 : Int32} {x5 : Int} (xt5 : xv5.toInt = x5) (hl : lv_has ls 6 [(0, .ref (G.2.2 (x0).toNat)), (2, .int xv2), (4, .int xv4), (5, .int xv5)])  (hP62 : ∀ {H : Heap} {locs : List Loc} {ls : Array Slot} {yv5 : Int32} {y5 : Int}, yv5.toInt = y5 → Wd G ((injC SB) S) H → va_S (AG G) s.heap H locs → lv_has ls 6 [(0, .ref (G.2.2 (x0).toNat)), (2, .int xv2), (4, .int xv4), (5, .int yv5)] → P62 y5 → W p l e (rmF 0 0) s m args below meth c H locs 0 0 (MQ below (QcI G (injC SB) (fun r u => k r ∧ u = S)) args s 0 0 (AG G)) (F0 m 62 ls [])) (h : wX2_methodIn_62_b S x0 x2 x4 x5 P62 k) : W p l e (rmF 0 0) s m args below meth c H locs 0 0 (MQ below (QcI G (injC SB) (fun r u => k r ∧ u = S)) args s 0 0 (AG G)) (F0 m 62 ls []) := by
  refine lv_iload C.1.1 C.1.2.1 dX2_methodIn_62 (lv_at hl 3 rfl) ?_
  refine lv_iload C.1.1 C.1.2.1 dX2_methodIn_64 (lv_at hl 2 rfl) ?_
  refine y_icmp_ge C xt5 xt4 dX2_methodIn_66 (tgt := 101) (by decide) (fun c1 => ?_) (fun c1 => ?_)
  · have h := h.1 c1
    refine y_iconst C dX2_methodIn_101 ⟨by decide, by decide⟩ (fun v2 t2 => ?_)
    exact y_iret C hw hS t2 ⟨h, rfl⟩ dX2_methodIn_102
  · have h := h.2 c1
    refine lv_aload_n C.1.1 C.1.2.1 dX2_methodIn_69 rfl (lv_at hl 0 rfl) ?_
    refine y_getA C fl_X2_19 hw (oc_of SB xo0) rfl (o := 2) rfl dX2_methodIn_70 ?_
    refine lv_aload_n C.1.1 C.1.2.1 dX2_methodIn_73 rfl (lv_at hl 0 rfl) ?_
    refine y_getA C fl_X2_31 hw (oc_of SB xo0) rfl (o := 5) rfl dX2_methodIn_74 ?_
    refine lv_iload C.1.1 C.1.2.1 dX2_methodIn_77 (lv_at hl 3 rfl) ?_
    obtain ⟨b5, h⟩ := h
    refine y_iald C hw (ac_2_6 SB xo0) xt5 b5 dX2_methodIn_79 (fun v5 t5 => ?_)
    obtain ⟨b6, h⟩ := h
    obtain ⟨x_6, e6⟩ : ∃ z : Int, z = x0 + 150 + 3 * (S (x0 + 5) x5) := ⟨_, rfl⟩
    have h := h x_6 e6
    have o6 : isO 3 x_6 := isO_mb xo0 b6 e6
    refine y_mbO C hw xo0 t5 b6 e6 dX2_methodIn_80 ?_
    refine y_getI C fl_X2_72 hw (oc_of SB o6) rfl dX2_methodIn_81 (fun v7 t7 => ?_)
    refine lv_iload_n C.1.1 C.1.2.1 dX2_methodIn_84 rfl (lv_at hl 1 rfl) ?_
    refine y_icmp_ne C t7 xt2 dX2_methodIn_85 (tgt := 95) (by decide) (fun c8 => ?_) (fun c8 => ?_)
    · have h := h.1 c8
      obtain ⟨x_9, e9⟩ : ∃ z : Int, z = w32 (x5 + 1) := ⟨_, rfl⟩
      have h := h x_9 e9
      obtain ⟨v9, t9, g9⟩ : ∃ z : Int32, z.toInt = x_9 ∧ xv5 + Int32.ofInt 1 = z := ⟨_, (ti_inc xt5 ⟨by decide, by decide⟩).trans e9.symm, rfl⟩
      refine lv_iinc (v := v9) (lv' := [(5, .int v9), (0, .ref (G.2.2 (x0).toNat)), (2, .int xv2), (4, .int xv4)]) C.1.1 C.1.2.1 dX2_methodIn_95 hl (k := 3) rfl g9 (by decide) rfl (fun ls hl => ?_)
      refine lv_goto (tgt := 62) C.1.1 C.1.2.1 dX2_methodIn_98 (by decide) ?_
      exact hP62 t9 hw hS (lv_sub hl [1, 2, 3, 0] rfl) h
    · have h := h.2 c8
      refine y_sipush C dX2_methodIn_88 ⟨by decide, by decide⟩ (fun v10 t10 => ?_)
      refine lv_iload C.1.1 C.1.2.1 dX2_methodIn_91 (lv_at hl 3 rfl) ?_
      refine y_iadd C t10 xt5 dX2_methodIn_93 (fun v11 t11 => ?_)
      exact y_iret C hw hS t11 ⟨h, rfl⟩ dX2_methodIn_94
set_option maxHeartbeats 4000000 in
set_option maxRecDepth 10000 in
theorem uX2_methodIn_62 {p : Program} {l : Launch} {e : Env} {s : State} {m : MethodId} {args : Array Value} {below : List Frame} {meth : Method} {c : Code} {G : GG} {SB : St} (C : Cx p s m args meth c G RX2 cX2_methodIn 6 (some .int)) {S : St} {H : Heap} {locs : List Loc} {ls : Array Slot}  {k : Int → Prop} (hw : Wd G ((injC SB) S) H) (hS : va_S (AG G) s.heap H locs) {x0 : Int} (xo0 : isO 2 x0) {xv2 : Int32} {x2 : Int} (xt2 : xv2.toInt = x2) {xv4 : Int32} {x4 : Int} (xt4 : xv4.toInt = x4) {xv5 : Int32} {x5 : Int} (xt5 : xv5.toInt = x5) (hl : lv_has ls 6 [(0, .ref (G.2.2 (x0).toNat)), (2, .int xv2), (4, .int xv4), (5, .int xv5)])  (h : wX2_methodIn_62 S x0 x2 x4 x5 k) : W p l e (rmF 0 0) s m args below meth c H locs 0 0 (MQ below (QcI G (injC SB) (fun r u => k r ∧ u = S)) args s 0 0 (AG G)) (F0 m 62 ls []) := by
  have key : ∀ (n : Nat) {H : Heap} {locs : List Loc} {ls : Array Slot} {xv5 : Int32} {x5 : Int}, xv5.toInt = x5 → Wd G ((injC SB) S) H → va_S (AG G) s.heap H locs → lv_has ls 6 [(0, .ref (G.2.2 (x0).toNat)), (2, .int xv2), (4, .int xv4), (5, .int xv5)] → itP (fun (P : Int → Prop) (a : Int) => wX2_methodIn_62_b S x0 x2 x4 a (fun b0 => P (b0)) k) n (x5) → W p l e (rmF 0 0) s m args below meth c H locs 0 0 (MQ below (QcI G (injC SB) (fun r u => k r ∧ u = S)) args s 0 0 (AG G)) (F0 m 62 ls []) := by
    intro n
    induction n with
    | zero => intro H locs ls xv5 x5 xt5 hw hS hl h; exact h.elim
    | succ n ih =>
      intro H locs ls xv5 x5 xt5 hw hS hl h
      exact uX2_methodIn_62_b C hw hS xo0 xt2 xt4 xt5 hl  (P62 := fun b0 => itP _ n (b0)) (fun q0 hw hS hl h => ih q0 hw hS hl h) h
  obtain ⟨n, hn⟩ := h
  exact key n xt5 hw hS hl hn
set_option maxHeartbeats 4000000 in
set_option maxRecDepth 10000 in
theorem uX2_methodIn_16_b {p : Program} {l : Launch} {e : Env} {s : State} {m : MethodId} {args : Array Value} {below : List Frame} {meth : Method} {c : Code} {G : GG} {SB : St} (C : Cx p s m args meth c G RX2 cX2_methodIn 6 (some .int)) {S : St} {H : Heap} {locs : List Loc} {ls : Array Slot}  {P16 : Int → Prop} {k : Int → Prop} (hw : Wd G ((injC SB) S) H) (hS : va_S (AG G) s.heap H locs) {x0 : Int} (xo0 : isO 2 x0) {x1 : Int} (xo1 : isO 6 x1) {xv2 : Int32} {x2 : Int} (xt2 : xv2.toInt = x2) {xv3 : Int32} {x3 : Int} (xt3 : xv3.toInt = x3) {xv4 : Int32} {x4 : Int} (xt4 : xv4.toInt = x4) (hl : lv_has ls 6 [(0, .ref (G.2.2 (x0).toNat)), (1, .ref (G.2.2 (x1).toNat)), (2, .int xv2), (3, .int xv3), (4, .int xv4)])  (hP16 : ∀ {H : Heap} {locs : List Loc} {ls : Array Slot} {yv4 : Int32} {y4 : Int}, yv4.toInt = y4 → Wd G ((injC SB) S) H → va_S (AG G) s.heap H locs → lv_has ls 6 [(0, .ref (G.2.2 (x0).toNat)), (1, .ref (G.2.2 (x1).toNat)), (2, .int xv2), (3, .int xv3), (4, .int yv4)] → P16 y4 → W p l e (rmF 0 0) s m args below meth c H locs 0 0 (MQ below (QcI G (injC SB) (fun r u => k r ∧ u = S)) args s 0 0 (AG G)) (F0 m 16 ls [])) (h : wX2_methodIn_16_b S x0 x1 x2 x3 x4 P16 k) : W p l e (rmF 0 0) s m args below meth c H locs 0 0 (MQ below (QcI G (injC SB) (fun r u => k r ∧ u = S)) args s 0 0 (AG G)) (F0 m 16 ls []) := by
  refine lv_iload C.1.1 C.1.2.1 dX2_methodIn_16 (lv_at hl 4 rfl) ?_
  refine lv_iload_n C.1.1 C.1.2.1 dX2_methodIn_18 rfl (lv_at hl 3 rfl) ?_
  refine y_icmp_ge C xt4 xt3 dX2_methodIn_19 (tgt := 45) (by decide) (fun c1 => ?_) (fun c1 => ?_)
  · have h := h.1 c1
    refine lv_aload_n C.1.1 C.1.2.1 dX2_methodIn_45 rfl (lv_at hl 1 rfl) ?_
    refine y_getI C fl_X2_79 hw (oc_of SB xo1) rfl dX2_methodIn_46 (fun v2 t2 => ?_)
    refine lv_aload_n C.1.1 C.1.2.1 dX2_methodIn_49 rfl (lv_at hl 1 rfl) ?_
    refine y_getI C fl_X2_82 hw (oc_of SB xo1) rfl dX2_methodIn_50 (fun v3 t3 => ?_)
    refine y_iadd C t2 t3 dX2_methodIn_53 (fun v4 t4 => ?_)
    obtain ⟨x_5, e5⟩ : ∃ z : Int, z = w32 (S x1 18 + S x1 19) := ⟨_, rfl⟩
    have h := h x_5 e5
    have t5 := t4.trans e5.symm
    refine lv_istore (lv' := [(4, .int v4), (0, .ref (G.2.2 (x0).toNat)), (1, .ref (G.2.2 (x1).toNat)), (2, .int xv2), (3, .int xv3)]) C.1.1 C.1.2.1 dX2_methodIn_54 hl (by decide) rfl (fun ls hl => ?_)
    refine lv_aload_n C.1.1 C.1.2.1 dX2_methodIn_56 rfl (lv_at hl 2 rfl) ?_
    refine y_getI C fl_X2_79 hw (oc_of SB xo1) rfl dX2_methodIn_57 (fun v6 t6 => ?_)
    obtain ⟨x_7, e7⟩ : ∃ z : Int, z = S x1 18 := ⟨_, rfl⟩
    have h := h x_7 e7
    have t7 := t6.trans e7.symm
    refine lv_istore (lv' := [(5, .int v6), (4, .int v4), (0, .ref (G.2.2 (x0).toNat)), (1, .ref (G.2.2 (x1).toNat)), (2, .int xv2), (3, .int xv3)]) C.1.1 C.1.2.1 dX2_methodIn_60 hl (by decide) rfl (fun ls hl => ?_)
    exact uX2_methodIn_62 C hw hS xo0 xt2 t5 t7 (lv_sub hl [2, 4, 1, 0] rfl)  h
  · have h := h.2 c1
    refine lv_aload_n C.1.1 C.1.2.1 dX2_methodIn_22 rfl (lv_at hl 0 rfl) ?_
    refine y_getA C fl_X2_19 hw (oc_of SB xo0) rfl (o := 2) rfl dX2_methodIn_23 ?_
    refine lv_iload C.1.1 C.1.2.1 dX2_methodIn_26 (lv_at hl 4 rfl) ?_
    obtain ⟨b9, h⟩ := h
    obtain ⟨x_9, e9⟩ : ∃ z : Int, z = x0 + 150 + 3 * x4 := ⟨_, rfl⟩
    have h := h x_9 e9
    have o9 : isO 3 x_9 := isO_mb xo0 b9 e9
    refine y_mbO C hw xo0 xt4 b9 e9 dX2_methodIn_28 ?_
    refine y_getI C fl_X2_72 hw (oc_of SB o9) rfl dX2_methodIn_29 (fun v10 t10 => ?_)
    refine lv_iload_n C.1.1 C.1.2.1 dX2_methodIn_32 rfl (lv_at hl 2 rfl) ?_
    refine y_icmp_ne C t10 xt2 dX2_methodIn_33 (tgt := 39) (by decide) (fun c11 => ?_) (fun c11 => ?_)
    · have h := h.1 c11
      obtain ⟨x_12, e12⟩ : ∃ z : Int, z = w32 (x4 + 1) := ⟨_, rfl⟩
      have h := h x_12 e12
      obtain ⟨v12, t12, g12⟩ : ∃ z : Int32, z.toInt = x_12 ∧ xv4 + Int32.ofInt 1 = z := ⟨_, (ti_inc xt4 ⟨by decide, by decide⟩).trans e12.symm, rfl⟩
      refine lv_iinc (v := v12) (lv' := [(4, .int v12), (0, .ref (G.2.2 (x0).toNat)), (1, .ref (G.2.2 (x1).toNat)), (2, .int xv2), (3, .int xv3)]) C.1.1 C.1.2.1 dX2_methodIn_39 hl (k := 4) rfl g12 (by decide) rfl (fun ls hl => ?_)
      refine lv_goto (tgt := 16) C.1.1 C.1.2.1 dX2_methodIn_42 (by decide) ?_
      exact hP16 t12 hw hS (lv_sub hl [1, 2, 3, 4, 0] rfl) h
    · have h := h.2 c11
      refine lv_iload C.1.1 C.1.2.1 dX2_methodIn_36 (lv_at hl 4 rfl) ?_
      exact y_iret C hw hS xt4 ⟨h, rfl⟩ dX2_methodIn_38
set_option maxHeartbeats 4000000 in
set_option maxRecDepth 10000 in
theorem uX2_methodIn_16 {p : Program} {l : Launch} {e : Env} {s : State} {m : MethodId} {args : Array Value} {below : List Frame} {meth : Method} {c : Code} {G : GG} {SB : St} (C : Cx p s m args meth c G RX2 cX2_methodIn 6 (some .int)) {S : St} {H : Heap} {locs : List Loc} {ls : Array Slot}  {k : Int → Prop} (hw : Wd G ((injC SB) S) H) (hS : va_S (AG G) s.heap H locs) {x0 : Int} (xo0 : isO 2 x0) {x1 : Int} (xo1 : isO 6 x1) {xv2 : Int32} {x2 : Int} (xt2 : xv2.toInt = x2) {xv3 : Int32} {x3 : Int} (xt3 : xv3.toInt = x3) {xv4 : Int32} {x4 : Int} (xt4 : xv4.toInt = x4) (hl : lv_has ls 6 [(0, .ref (G.2.2 (x0).toNat)), (1, .ref (G.2.2 (x1).toNat)), (2, .int xv2), (3, .int xv3), (4, .int xv4)])  (h : wX2_methodIn_16 S x0 x1 x2 x3 x4 k) : W p l e (rmF 0 0) s m args below meth c H locs 0 0 (MQ below (QcI G (injC SB) (fun r u => k r ∧ u = S)) args s 0 0 (AG G)) (F0 m 16 ls []) := by
  have key : ∀ (n : Nat) {H : Heap} {locs : List Loc} {ls : Array Slot} {xv4 : Int32} {x4 : Int}, xv4.toInt = x4 → Wd G ((injC SB) S) H → va_S (AG G) s.heap H locs → lv_has ls 6 [(0, .ref (G.2.2 (x0).toNat)), (1, .ref (G.2.2 (x1).toNat)), (2, .int xv2), (3, .int xv3), (4, .int xv4)] → itP (fun (P : Int → Prop) (a : Int) => wX2_methodIn_16_b S x0 x1 x2 x3 a (fun b0 => P (b0)) k) n (x4) → W p l e (rmF 0 0) s m args below meth c H locs 0 0 (MQ below (QcI G (injC SB) (fun r u => k r ∧ u = S)) args s 0 0 (AG G)) (F0 m 16 ls []) := by
    intro n
    induction n with
    | zero => intro H locs ls xv4 x4 xt4 hw hS hl h; exact h.elim
    | succ n ih =>
      intro H locs ls xv4 x4 xt4 hw hS hl h
      exact uX2_methodIn_16_b C hw hS xo0 xo1 xt2 xt3 xt4 hl  (P16 := fun b0 => itP _ n (b0)) (fun q0 hw hS hl h => ih q0 hw hS hl h) h
  obtain ⟨n, hn⟩ := h
  exact key n xt4 hw hS hl hn
set_option maxHeartbeats 4000000 in
set_option maxRecDepth 10000 in
theorem uX2_methodIn_0 {p : Program} {l : Launch} {e : Env} {s : State} {m : MethodId} {args : Array Value} {below : List Frame} {meth : Method} {c : Code} {G : GG} {SB : St} (C : Cx p s m args meth c G RX2 cX2_methodIn 6 (some .int)) {S : St} {H : Heap} {locs : List Loc} {ls : Array Slot}  {k : Int → Prop} (hw : Wd G ((injC SB) S) H) (hS : va_S (AG G) s.heap H locs) {x0 : Int} (xo0 : isO 2 x0) {x1 : Int} (xo1 : isO 6 x1) {xv2 : Int32} {x2 : Int} (xt2 : xv2.toInt = x2) (hl : lv_has ls 6 [(0, .ref (G.2.2 (x0).toNat)), (1, .ref (G.2.2 (x1).toNat)), (2, .int xv2)])  (h : wX2_methodIn_0 S x0 x1 x2 k) : W p l e (rmF 0 0) s m args below meth c H locs 0 0 (MQ below (QcI G (injC SB) (fun r u => k r ∧ u = S)) args s 0 0 (AG G)) (F0 m 0 ls []) := by
  refine lv_aload_n C.1.1 C.1.2.1 dX2_methodIn_0 rfl (lv_at hl 1 rfl) ?_
  refine y_getI C fl_X2_75 hw (oc_of SB xo1) rfl dX2_methodIn_1 (fun v1 t1 => ?_)
  refine lv_aload_n C.1.1 C.1.2.1 dX2_methodIn_4 rfl (lv_at hl 1 rfl) ?_
  refine y_getI C fl_X2_78 hw (oc_of SB xo1) rfl dX2_methodIn_5 (fun v2 t2 => ?_)
  refine y_iadd C t1 t2 dX2_methodIn_8 (fun v3 t3 => ?_)
  obtain ⟨x_4, e4⟩ : ∃ z : Int, z = w32 (S x1 16 + S x1 17) := ⟨_, rfl⟩
  have h := h x_4 e4
  have t4 := t3.trans e4.symm
  refine lv_istore_n (lv' := [(3, .int v3), (0, .ref (G.2.2 (x0).toNat)), (1, .ref (G.2.2 (x1).toNat)), (2, .int xv2)]) C.1.1 C.1.2.1 dX2_methodIn_9 rfl hl (by decide) rfl (fun ls hl => ?_)
  refine lv_aload_n C.1.1 C.1.2.1 dX2_methodIn_10 rfl (lv_at hl 2 rfl) ?_
  refine y_getI C fl_X2_75 hw (oc_of SB xo1) rfl dX2_methodIn_11 (fun v5 t5 => ?_)
  obtain ⟨x_6, e6⟩ : ∃ z : Int, z = S x1 16 := ⟨_, rfl⟩
  have h := h x_6 e6
  have t6 := t5.trans e6.symm
  refine lv_istore (lv' := [(4, .int v5), (3, .int v3), (0, .ref (G.2.2 (x0).toNat)), (1, .ref (G.2.2 (x1).toNat)), (2, .int xv2)]) C.1.1 C.1.2.1 dX2_methodIn_14 hl (by decide) rfl (fun ls hl => ?_)
  exact uX2_methodIn_16 C hw hS xo0 xo1 xt2 t4 t6 (lv_sub hl [2, 3, 4, 1, 0] rfl)  h
theorem kX2_methodIn (l : Launch) (G : GG) (SB S : St) {x0 : Int} (xo0 : isO 2 x0) {x1 : Int} (xo1 : isO 6 x1) {xv2 : Int32} {x2 : Int} (xt2 : xv2.toInt = x2) {k : Int → Prop} (h : wX2_methodIn S x0 x1 x2 k) : CnI l yX2_methodIn cX2_methodIn 6 (some .int) 0 0 G (injC SB) [.ref (G.2.2 (x0).toNat), .ref (G.2.2 (x1).toNat), .int xv2] S (fun r u => k r ∧ u = S) :=
  cn_body (by decide +kernel) (Nat.le_of_ble_eq_true rfl) (fun p e s m args below meth c ls C hw hl => uX2_methodIn_0 C hw va_S.rf xo0 xo1 xt2 (lv_sub hl [0, 1, 2] rfl) h)
set_option maxHeartbeats 4000000 in
set_option maxRecDepth 10000 in
theorem uX6_isFace_0 {p : Program} {l : Launch} {e : Env} {s : State} {m : MethodId} {args : Array Value} {below : List Frame} {meth : Method} {c : Code} {G : GG} {SB : St} (C : Cx p s m args meth c G RX6 cX6_isFace 1 (some .boolean)) {S : St} {H : Heap} {locs : List Loc} {ls : Array Slot}  {k : Int → Prop} (hw : Wd G ((injC SB) S) H) (hS : va_S (AG G) s.heap H locs) {x0 : Int} (xo0 : isO 6 x0) (hl : lv_has ls 1 [(0, .ref (G.2.2 (x0).toNat))])  (h : wX6_isFace_0 S x0 k) : W p l e (rmF 0 0) s m args below meth c H locs 0 0 (MQ below (QcI G (injC SB) (fun r u => k r ∧ u = S)) args s 0 0 (AG G)) (F0 m 0 ls []) := by
  refine lv_aload_n C.1.1 C.1.2.1 dX6_isFace_0 rfl (lv_at hl 0 rfl) ?_
  refine y_getI C fl_X6_32 hw (oc_of SB xo0) rfl dX6_isFace_1 (fun v1 t1 => ?_)
  refine y_iconst C dX6_isFace_4 ⟨by decide, by decide⟩ (fun v2 t2 => ?_)
  refine y_icmp_ne C t1 t2 dX6_isFace_5 (tgt := 12) (by decide) (fun c3 => ?_) (fun c3 => ?_)
  · have h := h.1 c3
    refine y_iconst C dX6_isFace_12 ⟨by decide, by decide⟩ (fun v4 t4 => ?_)
    exact y_zret C hw hS t4 (Or.inl rfl) ⟨h, rfl⟩ dX6_isFace_13
  · have h := h.2 c3
    refine y_iconst C dX6_isFace_8 ⟨by decide, by decide⟩ (fun v5 t5 => ?_)
    refine lv_goto (tgt := 13) C.1.1 C.1.2.1 dX6_isFace_9 (by decide) ?_
    exact y_zret C hw hS t5 (Or.inr rfl) ⟨h, rfl⟩ dX6_isFace_13
theorem kX6_isFace (l : Launch) (G : GG) (SB S : St) {x0 : Int} (xo0 : isO 6 x0) {k : Int → Prop} (h : wX6_isFace S x0 k) : CnI l yX6_isFace cX6_isFace 1 (some .boolean) 0 0 G (injC SB) [.ref (G.2.2 (x0).toNat)] S (fun r u => k r ∧ u = S) :=
  cn_body (by decide +kernel) (Nat.le_of_ble_eq_true rfl) (fun p e s m args below meth c ls C hw hl => uX6_isFace_0 C hw va_S.rf xo0 (lv_sub hl [0] rfl) h)
set_option maxHeartbeats 4000000 in
set_option maxRecDepth 10000 in
theorem uX2_sameNest_0 {p : Program} {l : Launch} {e : Env} {s : State} {m : MethodId} {args : Array Value} {below : List Frame} {meth : Method} {c : Code} {G : GG} {SB : St} (C : Cx p s m args meth c G RX2 cX2_sameNest 3 (some .boolean)) {S : St} {H : Heap} {locs : List Loc} {ls : Array Slot}  {k : Int → Prop} (hw : Wd G ((injC SB) S) H) (hS : va_S (AG G) s.heap H locs) {x0 : Int} (xo0 : isO 2 x0) {xv1 : Int32} {x1 : Int} (xt1 : xv1.toInt = x1) {xv2 : Int32} {x2 : Int} (xt2 : xv2.toInt = x2) (hl : lv_has ls 3 [(0, .ref (G.2.2 (x0).toNat)), (1, .int xv1), (2, .int xv2)])  (h : wX2_sameNest_0 S x0 x1 x2 k) : W p l e (rmF 0 0) s m args below meth c H locs 0 0 (MQ below (QcI G (injC SB) (fun r u => k r ∧ u = S)) args s 0 0 (AG G)) (F0 m 0 ls []) := by
  refine lv_aload_n C.1.1 C.1.2.1 dX2_sameNest_0 rfl (lv_at hl 0 rfl) ?_
  refine y_getA C fl_X2_11 hw (oc_of SB xo0) rfl (o := 1) rfl dX2_sameNest_1 ?_
  refine lv_iload_n C.1.1 C.1.2.1 dX2_sameNest_4 rfl (lv_at hl 1 rfl) ?_
  obtain ⟨b2, h⟩ := h
  obtain ⟨x_2, e2⟩ : ∃ z : Int, z = x0 + 6 + 6 * x1 := ⟨_, rfl⟩
  have h := h x_2 e2
  have o2 : isO 6 x_2 := isO_ty xo0 b2 e2
  refine y_tyO C hw xo0 xt1 b2 e2 dX2_sameNest_5 ?_
  refine y_getI C fl_X2_60 hw (oc_of SB o2) rfl dX2_sameNest_6 (fun v3 t3 => ?_)
  refine lv_aload_n C.1.1 C.1.2.1 dX2_sameNest_9 rfl (lv_at hl 0 rfl) ?_
  refine y_getA C fl_X2_11 hw (oc_of SB xo0) rfl (o := 1) rfl dX2_sameNest_10 ?_
  refine lv_iload_n C.1.1 C.1.2.1 dX2_sameNest_13 rfl (lv_at hl 2 rfl) ?_
  obtain ⟨b5, h⟩ := h
  obtain ⟨x_5, e5⟩ : ∃ z : Int, z = x0 + 6 + 6 * x2 := ⟨_, rfl⟩
  have h := h x_5 e5
  have o5 : isO 6 x_5 := isO_ty xo0 b5 e5
  refine y_tyO C hw xo0 xt2 b5 e5 dX2_sameNest_14 ?_
  refine y_getI C fl_X2_60 hw (oc_of SB o5) rfl dX2_sameNest_15 (fun v6 t6 => ?_)
  refine y_icmp_ne C t3 t6 dX2_sameNest_18 (tgt := 25) (by decide) (fun c7 => ?_) (fun c7 => ?_)
  · have h := h.1 c7
    refine y_iconst C dX2_sameNest_25 ⟨by decide, by decide⟩ (fun v8 t8 => ?_)
    exact y_zret C hw hS t8 (Or.inl rfl) ⟨h, rfl⟩ dX2_sameNest_26
  · have h := h.2 c7
    refine y_iconst C dX2_sameNest_21 ⟨by decide, by decide⟩ (fun v9 t9 => ?_)
    refine lv_goto (tgt := 26) C.1.1 C.1.2.1 dX2_sameNest_22 (by decide) ?_
    exact y_zret C hw hS t9 (Or.inr rfl) ⟨h, rfl⟩ dX2_sameNest_26
theorem kX2_sameNest (l : Launch) (G : GG) (SB S : St) {x0 : Int} (xo0 : isO 2 x0) {xv1 : Int32} {x1 : Int} (xt1 : xv1.toInt = x1) {xv2 : Int32} {x2 : Int} (xt2 : xv2.toInt = x2) {k : Int → Prop} (h : wX2_sameNest S x0 x1 x2 k) : CnI l yX2_sameNest cX2_sameNest 3 (some .boolean) 0 0 G (injC SB) [.ref (G.2.2 (x0).toNat), .int xv1, .int xv2] S (fun r u => k r ∧ u = S) :=
  cn_body (by decide +kernel) (Nat.le_of_ble_eq_true rfl) (fun p e s m args below meth c ls C hw hl => uX2_sameNest_0 C hw va_S.rf xo0 xt1 xt2 (lv_sub hl [0, 1, 2] rfl) h)
set_option maxHeartbeats 4000000 in
set_option maxRecDepth 10000 in
theorem uX2_signatureOf_0 {p : Program} {l : Launch} {e : Env} {s : State} {m : MethodId} {args : Array Value} {below : List Frame} {meth : Method} {c : Code} {G : GG} {SB : St} (C : Cx p s m args meth c G RX2 cX2_signatureOf 2 (some .int)) {S : St} {H : Heap} {locs : List Loc} {ls : Array Slot}  {k : Int → Prop} (hw : Wd G ((injC SB) S) H) (hS : va_S (AG G) s.heap H locs) {x0 : Int} (xo0 : isO 2 x0) {xv1 : Int32} {x1 : Int} (xt1 : xv1.toInt = x1) (hl : lv_has ls 2 [(0, .ref (G.2.2 (x0).toNat)), (1, .int xv1)])  (h : wX2_signatureOf_0 S x0 x1 k) : W p l e (rmF 0 0) s m args below meth c H locs 0 0 (MQ below (QcI G (injC SB) (fun r u => k r ∧ u = S)) args s 0 0 (AG G)) (F0 m 0 ls []) := by
  refine lv_aload_n C.1.1 C.1.2.1 dX2_signatureOf_0 rfl (lv_at hl 0 rfl) ?_
  refine y_getA C fl_X2_19 hw (oc_of SB xo0) rfl (o := 2) rfl dX2_signatureOf_1 ?_
  refine lv_iload_n C.1.1 C.1.2.1 dX2_signatureOf_4 rfl (lv_at hl 1 rfl) ?_
  refine y_sipush C dX2_signatureOf_5 ⟨by decide, by decide⟩ (fun v2 t2 => ?_)
  refine y_icmp_ge C xt1 t2 dX2_signatureOf_8 (tgt := 15) (by decide) (fun c3 => ?_) (fun c3 => ?_)
  · have h := h.1 c3
    refine lv_aload_n C.1.1 C.1.2.1 dX2_signatureOf_15 rfl (lv_at hl 0 rfl) ?_
    refine y_getA C fl_X2_31 hw (oc_of SB xo0) rfl (o := 5) rfl dX2_signatureOf_16 ?_
    refine lv_iload_n C.1.1 C.1.2.1 dX2_signatureOf_19 rfl (lv_at hl 1 rfl) ?_
    refine y_sipush C dX2_signatureOf_20 ⟨by decide, by decide⟩ (fun v5 t5 => ?_)
    refine y_isub C xt1 t5 dX2_signatureOf_23 (fun v6 t6 => ?_)
    obtain ⟨b7, h⟩ := h
    refine y_iald C hw (ac_2_6 SB xo0) t6 b7 dX2_signatureOf_24 (fun v7 t7 => ?_)
    obtain ⟨b8, h⟩ := h
    obtain ⟨x_8, e8⟩ : ∃ z : Int, z = x0 + 150 + 3 * (S (x0 + 5) (w32 (x1 - 1000))) := ⟨_, rfl⟩
    have h := h x_8 e8
    have o8 : isO 3 x_8 := isO_mb xo0 b8 e8
    refine y_mbO C hw xo0 t7 b8 e8 dX2_signatureOf_25 ?_
    refine y_getI C fl_X2_72 hw (oc_of SB o8) rfl dX2_signatureOf_26 (fun v9 t9 => ?_)
    exact y_iret C hw hS t9 ⟨h, rfl⟩ dX2_signatureOf_29
  · have h := h.2 c3
    refine lv_iload_n C.1.1 C.1.2.1 dX2_signatureOf_11 rfl (lv_at hl 1 rfl) ?_
    refine lv_goto (tgt := 25) C.1.1 C.1.2.1 dX2_signatureOf_12 (by decide) ?_
    obtain ⟨b10, h⟩ := h
    obtain ⟨x_10, e10⟩ : ∃ z : Int, z = x0 + 150 + 3 * x1 := ⟨_, rfl⟩
    have h := h x_10 e10
    have o10 : isO 3 x_10 := isO_mb xo0 b10 e10
    refine y_mbO C hw xo0 xt1 b10 e10 dX2_signatureOf_25 ?_
    refine y_getI C fl_X2_72 hw (oc_of SB o10) rfl dX2_signatureOf_26 (fun v11 t11 => ?_)
    exact y_iret C hw hS t11 ⟨h, rfl⟩ dX2_signatureOf_29
theorem kX2_signatureOf (l : Launch) (G : GG) (SB S : St) {x0 : Int} (xo0 : isO 2 x0) {xv1 : Int32} {x1 : Int} (xt1 : xv1.toInt = x1) {k : Int → Prop} (h : wX2_signatureOf S x0 x1 k) : CnI l yX2_signatureOf cX2_signatureOf 2 (some .int) 0 0 G (injC SB) [.ref (G.2.2 (x0).toNat), .int xv1] S (fun r u => k r ∧ u = S) :=
  cn_body (by decide +kernel) (Nat.le_of_ble_eq_true rfl) (fun p e s m args below meth c ls C hw hl => uX2_signatureOf_0 C hw va_S.rf xo0 xt1 (lv_sub hl [0, 1] rfl) h)
set_option maxHeartbeats 4000000 in
set_option maxRecDepth 10000 in
theorem uX6_hasRef_2_b {p : Program} {l : Launch} {e : Env} {s : State} {m : MethodId} {args : Array Value} {below : List Frame} {meth : Method} {c : Code} {G : GG} {SB : St} (C : Cx p s m args meth c G RX6 cX6_hasRef 3 (some .boolean)) {S : St} {H : Heap} {locs : List Loc} {ls : Array Slot}  {P2 : Int → Prop} {k : Int → Prop} (hw : Wd G ((injC SB) S) H) (hS : va_S (AG G) s.heap H locs) {x0 : Int} (xo0 : isO 6 x0) {xv1 : Int32} {x1 : Int} (xt1 : xv1.toInt = x1) {xv2 : Int32} {x2 : Int} (xt2 : xv2.toInt = x2) (hl : lv_has ls 3 [(0, .ref (G.2.2 (x0).toNat)), (1, .int xv1), (2, .int xv2)])  (hP2 : ∀ {H : Heap} {locs : List Loc} {ls : Array Slot} {yv2 : Int32} {y2 : Int}, yv2.toInt = y2 → Wd G ((injC SB) S) H → va_S (AG G) s.heap H locs → lv_has ls 3 [(0, .ref (G.2.2 (x0).toNat)), (1, .int xv1), (2, .int yv2)] → P2 y2 → W p l e (rmF 0 0) s m args below meth c H locs 0 0 (MQ below (QcI G (injC SB) (fun r u => k r ∧ u = S)) args s 0 0 (AG G)) (F0 m 2 ls [])) (h : wX6_hasRef_2_b S x0 x1 x2 P2 k) : W p l e (rmF 0 0) s m args below meth c H locs 0 0 (MQ below (QcI G (injC SB) (fun r u => k r ∧ u = S)) args s 0 0 (AG G)) (F0 m 2 ls []) := by
  refine lv_iload_n C.1.1 C.1.2.1 dX6_hasRef_2 rfl (lv_at hl 2 rfl) ?_
  refine lv_aload_n C.1.1 C.1.2.1 dX6_hasRef_3 rfl (lv_at hl 0 rfl) ?_
  refine y_getI C fl_X6_54 hw (oc_of SB xo0) rfl dX6_hasRef_4 (fun v1 t1 => ?_)
  refine y_icmp_ge C xt2 t1 dX6_hasRef_7 (tgt := 28) (by decide) (fun c2 => ?_) (fun c2 => ?_)
  · have h := h.1 c2
    refine y_iconst C dX6_hasRef_28 ⟨by decide, by decide⟩ (fun v3 t3 => ?_)
    exact y_zret C hw hS t3 (Or.inl rfl) ⟨h, rfl⟩ dX6_hasRef_29
  · have h := h.2 c2
    refine lv_aload_n C.1.1 C.1.2.1 dX6_hasRef_10 rfl (lv_at hl 0 rfl) ?_
    refine y_getA C fl_X6_19 hw (oc_of SB xo0) rfl (o := 3) rfl dX6_hasRef_11 ?_
    refine lv_iload_n C.1.1 C.1.2.1 dX6_hasRef_14 rfl (lv_at hl 2 rfl) ?_
    obtain ⟨b5, h⟩ := h
    refine y_iald C hw (ac_6_10 SB xo0) xt2 b5 dX6_hasRef_15 (fun v5 t5 => ?_)
    refine lv_iload_n C.1.1 C.1.2.1 dX6_hasRef_16 rfl (lv_at hl 1 rfl) ?_
    refine y_icmp_ne C t5 xt1 dX6_hasRef_17 (tgt := 22) (by decide) (fun c6 => ?_) (fun c6 => ?_)
    · have h := h.1 c6
      obtain ⟨x_7, e7⟩ : ∃ z : Int, z = w32 (x2 + 1) := ⟨_, rfl⟩
      have h := h x_7 e7
      obtain ⟨v7, t7, g7⟩ : ∃ z : Int32, z.toInt = x_7 ∧ xv2 + Int32.ofInt 1 = z := ⟨_, (ti_inc xt2 ⟨by decide, by decide⟩).trans e7.symm, rfl⟩
      refine lv_iinc (v := v7) (lv' := [(2, .int v7), (0, .ref (G.2.2 (x0).toNat)), (1, .int xv1)]) C.1.1 C.1.2.1 dX6_hasRef_22 hl (k := 2) rfl g7 (by decide) rfl (fun ls hl => ?_)
      refine lv_goto (tgt := 2) C.1.1 C.1.2.1 dX6_hasRef_25 (by decide) ?_
      exact hP2 t7 hw hS (lv_sub hl [1, 2, 0] rfl) h
    · have h := h.2 c6
      refine y_iconst C dX6_hasRef_20 ⟨by decide, by decide⟩ (fun v8 t8 => ?_)
      exact y_zret C hw hS t8 (Or.inr rfl) ⟨h, rfl⟩ dX6_hasRef_21
set_option maxHeartbeats 4000000 in
set_option maxRecDepth 10000 in
theorem uX6_hasRef_2 {p : Program} {l : Launch} {e : Env} {s : State} {m : MethodId} {args : Array Value} {below : List Frame} {meth : Method} {c : Code} {G : GG} {SB : St} (C : Cx p s m args meth c G RX6 cX6_hasRef 3 (some .boolean)) {S : St} {H : Heap} {locs : List Loc} {ls : Array Slot}  {k : Int → Prop} (hw : Wd G ((injC SB) S) H) (hS : va_S (AG G) s.heap H locs) {x0 : Int} (xo0 : isO 6 x0) {xv1 : Int32} {x1 : Int} (xt1 : xv1.toInt = x1) {xv2 : Int32} {x2 : Int} (xt2 : xv2.toInt = x2) (hl : lv_has ls 3 [(0, .ref (G.2.2 (x0).toNat)), (1, .int xv1), (2, .int xv2)])  (h : wX6_hasRef_2 S x0 x1 x2 k) : W p l e (rmF 0 0) s m args below meth c H locs 0 0 (MQ below (QcI G (injC SB) (fun r u => k r ∧ u = S)) args s 0 0 (AG G)) (F0 m 2 ls []) := by
  have key : ∀ (n : Nat) {H : Heap} {locs : List Loc} {ls : Array Slot} {xv2 : Int32} {x2 : Int}, xv2.toInt = x2 → Wd G ((injC SB) S) H → va_S (AG G) s.heap H locs → lv_has ls 3 [(0, .ref (G.2.2 (x0).toNat)), (1, .int xv1), (2, .int xv2)] → itP (fun (P : Int → Prop) (a : Int) => wX6_hasRef_2_b S x0 x1 a (fun b0 => P (b0)) k) n (x2) → W p l e (rmF 0 0) s m args below meth c H locs 0 0 (MQ below (QcI G (injC SB) (fun r u => k r ∧ u = S)) args s 0 0 (AG G)) (F0 m 2 ls []) := by
    intro n
    induction n with
    | zero => intro H locs ls xv2 x2 xt2 hw hS hl h; exact h.elim
    | succ n ih =>
      intro H locs ls xv2 x2 xt2 hw hS hl h
      exact uX6_hasRef_2_b C hw hS xo0 xt1 xt2 hl  (P2 := fun b0 => itP _ n (b0)) (fun q0 hw hS hl h => ih q0 hw hS hl h) h
  obtain ⟨n, hn⟩ := h
  exact key n xt2 hw hS hl hn
set_option maxHeartbeats 4000000 in
set_option maxRecDepth 10000 in
theorem uX6_hasRef_0 {p : Program} {l : Launch} {e : Env} {s : State} {m : MethodId} {args : Array Value} {below : List Frame} {meth : Method} {c : Code} {G : GG} {SB : St} (C : Cx p s m args meth c G RX6 cX6_hasRef 3 (some .boolean)) {S : St} {H : Heap} {locs : List Loc} {ls : Array Slot}  {k : Int → Prop} (hw : Wd G ((injC SB) S) H) (hS : va_S (AG G) s.heap H locs) {x0 : Int} (xo0 : isO 6 x0) {xv1 : Int32} {x1 : Int} (xt1 : xv1.toInt = x1) (hl : lv_has ls 3 [(0, .ref (G.2.2 (x0).toNat)), (1, .int xv1)])  (h : wX6_hasRef_0 S x0 x1 k) : W p l e (rmF 0 0) s m args below meth c H locs 0 0 (MQ below (QcI G (injC SB) (fun r u => k r ∧ u = S)) args s 0 0 (AG G)) (F0 m 0 ls []) := by
  refine y_iconst C dX6_hasRef_0 ⟨by decide, by decide⟩ (fun v1 t1 => ?_)
  refine lv_istore_n (lv' := [(2, .int v1), (0, .ref (G.2.2 (x0).toNat)), (1, .int xv1)]) C.1.1 C.1.2.1 dX6_hasRef_1 rfl hl (by decide) rfl (fun ls hl => ?_)
  exact uX6_hasRef_2 C hw hS xo0 xt1 t1 (lv_sub hl [1, 2, 0] rfl)  h
theorem kX6_hasRef (l : Launch) (G : GG) (SB S : St) {x0 : Int} (xo0 : isO 6 x0) {xv1 : Int32} {x1 : Int} (xt1 : xv1.toInt = x1) {k : Int → Prop} (h : wX6_hasRef S x0 x1 k) : CnI l yX6_hasRef cX6_hasRef 3 (some .boolean) 0 0 G (injC SB) [.ref (G.2.2 (x0).toNat), .int xv1] S (fun r u => k r ∧ u = S) :=
  cn_body (by decide +kernel) (Nat.le_of_ble_eq_true rfl) (fun p e s m args below meth c ls C hw hl => uX6_hasRef_0 C hw va_S.rf xo0 xt1 (lv_sub hl [0, 1] rfl) h)
set_option maxHeartbeats 4000000 in
set_option maxRecDepth 10000 in
theorem uX2_behind_0 {p : Program} {l : Launch} {e : Env} {s : State} {m : MethodId} {args : Array Value} {below : List Frame} {meth : Method} {c : Code} {G : GG} {SB : St} (C : Cx p s m args meth c G RX2 cX2_behind 2 (some .int)) {S : St} {H : Heap} {locs : List Loc} {ls : Array Slot}  {k : Int → Prop} (hw : Wd G ((injC SB) S) H) (hS : va_S (AG G) s.heap H locs) {x0 : Int} (xo0 : isO 2 x0) {xv1 : Int32} {x1 : Int} (xt1 : xv1.toInt = x1) (hl : lv_has ls 2 [(0, .ref (G.2.2 (x0).toNat)), (1, .int xv1)])  (h : wX2_behind_0 S x0 x1 k) : W p l e (rmF 0 0) s m args below meth c H locs 0 0 (MQ below (QcI G (injC SB) (fun r u => k r ∧ u = S)) args s 0 0 (AG G)) (F0 m 0 ls []) := by
  refine lv_iload_n C.1.1 C.1.2.1 dX2_behind_0 rfl (lv_at hl 1 rfl) ?_
  refine y_sipush C dX2_behind_1 ⟨by decide, by decide⟩ (fun v1 t1 => ?_)
  refine y_icmp_ge C xt1 t1 dX2_behind_4 (tgt := 11) (by decide) (fun c2 => ?_) (fun c2 => ?_)
  · have h := h.1 c2
    refine lv_aload_n C.1.1 C.1.2.1 dX2_behind_11 rfl (lv_at hl 0 rfl) ?_
    refine y_getA C fl_X2_27 hw (oc_of SB xo0) rfl (o := 4) rfl dX2_behind_12 ?_
    refine lv_iload_n C.1.1 C.1.2.1 dX2_behind_15 rfl (lv_at hl 1 rfl) ?_
    refine y_sipush C dX2_behind_16 ⟨by decide, by decide⟩ (fun v4 t4 => ?_)
    refine y_isub C xt1 t4 dX2_behind_19 (fun v5 t5 => ?_)
    obtain ⟨b6, h⟩ := h
    refine y_iald C hw (ac_2_5 SB xo0) t5 b6 dX2_behind_20 (fun v6 t6 => ?_)
    exact y_iret C hw hS t6 ⟨h, rfl⟩ dX2_behind_21
  · have h := h.2 c2
    refine lv_iload_n C.1.1 C.1.2.1 dX2_behind_7 rfl (lv_at hl 1 rfl) ?_
    refine lv_goto (tgt := 21) C.1.1 C.1.2.1 dX2_behind_8 (by decide) ?_
    exact y_iret C hw hS xt1 ⟨h, rfl⟩ dX2_behind_21
theorem kX2_behind (l : Launch) (G : GG) (SB S : St) {x0 : Int} (xo0 : isO 2 x0) {xv1 : Int32} {x1 : Int} (xt1 : xv1.toInt = x1) {k : Int → Prop} (h : wX2_behind S x0 x1 k) : CnI l yX2_behind cX2_behind 2 (some .int) 0 0 G (injC SB) [.ref (G.2.2 (x0).toNat), .int xv1] S (fun r u => k r ∧ u = S) :=
  cn_body (by decide +kernel) (Nat.le_of_ble_eq_true rfl) (fun p e s m args below meth c ls C hw hl => uX2_behind_0 C hw va_S.rf xo0 xt1 (lv_sub hl [0, 1] rfl) h)
set_option maxHeartbeats 4000000 in
set_option maxRecDepth 10000 in
theorem uX2_clear_22_b {p : Program} {l : Launch} {e : Env} {s : State} {m : MethodId} {args : Array Value} {below : List Frame} {meth : Method} {c : Code} {G : GG} {SB : St} (C : Cx p s m args meth c G RX2 cX2_clear 2 none) {S : St} {H : Heap} {locs : List Loc} {ls : Array Slot}  {P22 : Int → St → Prop} {k : St → Prop} (hw : Wd G ((injC SB) S) H) (hS : va_S (AG G) s.heap H locs) {x0 : Int} (xo0 : isO 2 x0) {xv1 : Int32} {x1 : Int} (xt1 : xv1.toInt = x1) (hl : lv_has ls 2 [(0, .ref (G.2.2 (x0).toNat)), (1, .int xv1)])  (hP22 : ∀ {H : Heap} {locs : List Loc} {ls : Array Slot} {Sy : St} {yv1 : Int32} {y1 : Int}, yv1.toInt = y1 → Wd G ((injC SB) Sy) H → va_S (AG G) s.heap H locs → lv_has ls 2 [(0, .ref (G.2.2 (x0).toNat)), (1, .int yv1)] → P22 y1 Sy → W p l e (rmF 0 0) s m args below meth c H locs 0 0 (MQ below (QcV G (injC SB) k) args s 0 0 (AG G)) (F0 m 22 ls [])) (h : wX2_clear_22_b S x0 x1 P22 k) : W p l e (rmF 0 0) s m args below meth c H locs 0 0 (MQ below (QcV G (injC SB) k) args s 0 0 (AG G)) (F0 m 22 ls []) := by
  refine lv_iload_n C.1.1 C.1.2.1 dX2_clear_22 rfl (lv_at hl 1 rfl) ?_
  refine lv_aload_n C.1.1 C.1.2.1 dX2_clear_23 rfl (lv_at hl 0 rfl) ?_
  refine y_getA C fl_X2_23 hw (oc_of SB xo0) rfl (o := 3) rfl dX2_clear_24 ?_
  refine y_alen C hw (ac_2_4 SB xo0) ⟨by decide, by decide⟩ ⟨by decide, by decide⟩ dX2_clear_27 (fun v2 t2 => ?_)
  refine y_icmp_ge C xt1 t2 dX2_clear_28 (tgt := 44) (by decide) (fun c3 => ?_) (fun c3 => ?_)
  · have h := h.1 c3
    exact y_vret C hw hS h dX2_clear_44
  · have h := h.2 c3
    refine lv_aload_n C.1.1 C.1.2.1 dX2_clear_31 rfl (lv_at hl 0 rfl) ?_
    refine y_getA C fl_X2_23 hw (oc_of SB xo0) rfl (o := 3) rfl dX2_clear_32 ?_
    refine lv_iload_n C.1.1 C.1.2.1 dX2_clear_35 rfl (lv_at hl 1 rfl) ?_
    refine y_lconst0 C dX2_clear_36 (fun v5 t5 => ?_)
    obtain ⟨b6, h⟩ := h
    obtain ⟨S_6, e6⟩ : ∃ z : St, z = up S (x0 + 3) x1 0 := ⟨_, rfl⟩
    have h := h S_6 e6
    refine y_last C hw hS (ac_2_4 SB xo0) xt1 t5 b6 dX2_clear_37 (fun H locs hw hS => ?_)
    have hw : Wd G ((injC SB) S_6) H := by rw [e6]; exact hw
    obtain ⟨x_7, e7⟩ : ∃ z : Int, z = w32 (x1 + 1) := ⟨_, rfl⟩
    have h := h x_7 e7
    obtain ⟨v7, t7, g7⟩ : ∃ z : Int32, z.toInt = x_7 ∧ xv1 + Int32.ofInt 1 = z := ⟨_, (ti_inc xt1 ⟨by decide, by decide⟩).trans e7.symm, rfl⟩
    refine lv_iinc (v := v7) (lv' := [(1, .int v7), (0, .ref (G.2.2 (x0).toNat))]) C.1.1 C.1.2.1 dX2_clear_38 hl (k := 1) rfl g7 (by decide) rfl (fun ls hl => ?_)
    refine lv_goto (tgt := 22) C.1.1 C.1.2.1 dX2_clear_41 (by decide) ?_
    exact hP22 t7 hw hS (lv_sub hl [1, 0] rfl) h
set_option maxHeartbeats 4000000 in
set_option maxRecDepth 10000 in
theorem uX2_clear_22 {p : Program} {l : Launch} {e : Env} {s : State} {m : MethodId} {args : Array Value} {below : List Frame} {meth : Method} {c : Code} {G : GG} {SB : St} (C : Cx p s m args meth c G RX2 cX2_clear 2 none) {S : St} {H : Heap} {locs : List Loc} {ls : Array Slot}  {k : St → Prop} (hw : Wd G ((injC SB) S) H) (hS : va_S (AG G) s.heap H locs) {x0 : Int} (xo0 : isO 2 x0) {xv1 : Int32} {x1 : Int} (xt1 : xv1.toInt = x1) (hl : lv_has ls 2 [(0, .ref (G.2.2 (x0).toNat)), (1, .int xv1)])  (h : wX2_clear_22 S x0 x1 k) : W p l e (rmF 0 0) s m args below meth c H locs 0 0 (MQ below (QcV G (injC SB) k) args s 0 0 (AG G)) (F0 m 22 ls []) := by
  have key : ∀ (n : Nat) {H : Heap} {locs : List Loc} {ls : Array Slot} {S : St} {xv1 : Int32} {x1 : Int}, xv1.toInt = x1 → Wd G ((injC SB) S) H → va_S (AG G) s.heap H locs → lv_has ls 2 [(0, .ref (G.2.2 (x0).toNat)), (1, .int xv1)] → itP (fun (P : Int × St → Prop) (a : Int × St) => wX2_clear_22_b a.2 x0 a.1 (fun b0 b1 => P (b0, b1)) k) n (x1, S) → W p l e (rmF 0 0) s m args below meth c H locs 0 0 (MQ below (QcV G (injC SB) k) args s 0 0 (AG G)) (F0 m 22 ls []) := by
    intro n
    induction n with
    | zero => intro H locs ls S xv1 x1 xt1 hw hS hl h; exact h.elim
    | succ n ih =>
      intro H locs ls S xv1 x1 xt1 hw hS hl h
      exact uX2_clear_22_b C hw hS xo0 xt1 hl  (P22 := fun b0 b1 => itP _ n (b0, b1)) (fun q0 hw hS hl h => ih q0 hw hS hl h) h
  obtain ⟨n, hn⟩ := h
  exact key n xt1 hw hS hl hn
set_option maxHeartbeats 4000000 in
set_option maxRecDepth 10000 in
theorem uX2_clear_0 {p : Program} {l : Launch} {e : Env} {s : State} {m : MethodId} {args : Array Value} {below : List Frame} {meth : Method} {c : Code} {G : GG} {SB : St} (C : Cx p s m args meth c G RX2 cX2_clear 2 none) {S : St} {H : Heap} {locs : List Loc} {ls : Array Slot}  {k : St → Prop} (hw : Wd G ((injC SB) S) H) (hS : va_S (AG G) s.heap H locs) {x0 : Int} (xo0 : isO 2 x0) (hl : lv_has ls 2 [(0, .ref (G.2.2 (x0).toNat))])  (h : wX2_clear_0 S x0 k) : W p l e (rmF 0 0) s m args below meth c H locs 0 0 (MQ below (QcV G (injC SB) k) args s 0 0 (AG G)) (F0 m 0 ls []) := by
  refine lv_aload_n C.1.1 C.1.2.1 dX2_clear_0 rfl (lv_at hl 0 rfl) ?_
  refine y_iconst C dX2_clear_1 ⟨by decide, by decide⟩ (fun v1 t1 => ?_)
  obtain ⟨S_2, e2⟩ : ∃ z : St, z = up S x0 1 0 := ⟨_, rfl⟩
  have h := h S_2 e2
  refine y_putI C fl_X2_38 fp_2_1 hw hS (oc_of SB xo0) rfl t1 dX2_clear_2 (fun H locs hw hS => ?_)
  have hw : Wd G ((injC SB) S_2) H := by rw [e2]; exact hw
  refine lv_aload_n C.1.1 C.1.2.1 dX2_clear_5 rfl (lv_at hl 0 rfl) ?_
  refine y_iconst C dX2_clear_6 ⟨by decide, by decide⟩ (fun v3 t3 => ?_)
  obtain ⟨S_4, e4⟩ : ∃ z : St, z = up S_2 x0 3 0 := ⟨_, rfl⟩
  have h := h S_4 e4
  refine y_putI C fl_X2_42 fp_2_3 hw hS (oc_of SB xo0) rfl t3 dX2_clear_7 (fun H locs hw hS => ?_)
  have hw : Wd G ((injC SB) S_4) H := by rw [e4]; exact hw
  refine lv_aload_n C.1.1 C.1.2.1 dX2_clear_10 rfl (lv_at hl 0 rfl) ?_
  refine y_iconst C dX2_clear_11 ⟨by decide, by decide⟩ (fun v5 t5 => ?_)
  obtain ⟨S_6, e6⟩ : ∃ z : St, z = up S_4 x0 7 0 := ⟨_, rfl⟩
  have h := h S_6 e6
  refine y_putI C fl_X2_45 fp_2_7 hw hS (oc_of SB xo0) rfl t5 dX2_clear_12 (fun H locs hw hS => ?_)
  have hw : Wd G ((injC SB) S_6) H := by rw [e6]; exact hw
  refine lv_aload_n C.1.1 C.1.2.1 dX2_clear_15 rfl (lv_at hl 0 rfl) ?_
  refine y_iconst C dX2_clear_16 ⟨by decide, by decide⟩ (fun v7 t7 => ?_)
  obtain ⟨S_8, e8⟩ : ∃ z : St, z = up S_6 x0 8 0 := ⟨_, rfl⟩
  have h := h S_8 e8
  refine y_putI C fl_X2_48 fp_2_8 hw hS (oc_of SB xo0) rfl t7 dX2_clear_17 (fun H locs hw hS => ?_)
  have hw : Wd G ((injC SB) S_8) H := by rw [e8]; exact hw
  refine y_iconst C dX2_clear_20 ⟨by decide, by decide⟩ (fun v9 t9 => ?_)
  refine lv_istore_n (lv' := [(1, .int v9), (0, .ref (G.2.2 (x0).toNat))]) C.1.1 C.1.2.1 dX2_clear_21 rfl hl (by decide) rfl (fun ls hl => ?_)
  exact uX2_clear_22 C hw hS xo0 t9 (lv_sub hl [1, 0] rfl)  h
theorem kX2_clear (l : Launch) (G : GG) (SB S : St) {x0 : Int} (xo0 : isO 2 x0) {k : St → Prop} (h : wX2_clear S x0 k) : CnV l yX2_clear cX2_clear 2 none 0 0 G (injC SB) [.ref (G.2.2 (x0).toNat)] S k :=
  cn_body (by decide +kernel) (Nat.le_of_ble_eq_true rfl) (fun p e s m args below meth c ls C hw hl => uX2_clear_0 C hw va_S.rf xo0 (lv_sub hl [0] rfl) h)
set_option maxHeartbeats 4000000 in
set_option maxRecDepth 10000 in
theorem uX3_clear_0 {p : Program} {l : Launch} {e : Env} {s : State} {m : MethodId} {args : Array Value} {below : List Frame} {meth : Method} {c : Code} {G : GG} {SB : St} (C : Cx p s m args meth c G RX3 cX3_clear 2 none) {S : St} {H : Heap} {locs : List Loc} {ls : Array Slot}  {k : St → Prop} (hw : Wd G ((injC SB) S) H) (hS : va_S (AG G) s.heap H locs) {x0 : Int} (xo0 : isO 3 x0) {xv1 : Int32} {x1 : Int} (xt1 : xv1.toInt = x1) (hl : lv_has ls 2 [(0, .ref (G.2.2 (x0).toNat)), (1, .int xv1)])  (h : wX3_clear_0 S x0 x1 k) : W p l e (rmF 0 0) s m args below meth c H locs 0 0 (MQ below (QcV G (injC SB) k) args s 0 0 (AG G)) (F0 m 0 ls []) := by
  refine lv_aload_n C.1.1 C.1.2.1 dX3_clear_0 rfl (lv_at hl 0 rfl) ?_
  refine lv_iload_n C.1.1 C.1.2.1 dX3_clear_1 rfl (lv_at hl 1 rfl) ?_
  obtain ⟨S_1, e1⟩ : ∃ z : St, z = up S x0 1 x1 := ⟨_, rfl⟩
  have h := h S_1 e1
  refine y_putI C fl_X3_18 fp_3_1 hw hS (oc_of SB xo0) rfl xt1 dX3_clear_2 (fun H locs hw hS => ?_)
  have hw : Wd G ((injC SB) S_1) H := by rw [e1]; exact hw
  refine lv_aload_n C.1.1 C.1.2.1 dX3_clear_5 rfl (lv_at hl 0 rfl) ?_
  refine y_lconst0 C dX3_clear_6 (fun v2 t2 => ?_)
  obtain ⟨S_3, e3⟩ : ∃ z : St, z = up S_1 x0 0 0 := ⟨_, rfl⟩
  have h := h S_3 e3
  refine y_putJ C fl_X3_22 fp_3_0 hw hS (oc_of SB xo0) rfl t2 dX3_clear_7 (fun H locs hw hS => ?_)
  have hw : Wd G ((injC SB) S_3) H := by rw [e3]; exact hw
  refine lv_aload_n C.1.1 C.1.2.1 dX3_clear_10 rfl (lv_at hl 0 rfl) ?_
  refine y_iconst C dX3_clear_11 ⟨by decide, by decide⟩ (fun v4 t4 => ?_)
  obtain ⟨S_5, e5⟩ : ∃ z : St, z = up S_3 x0 2 1 := ⟨_, rfl⟩
  have h := h S_5 e5
  refine y_putI C fl_X3_26 fp_3_2 hw hS (oc_of SB xo0) rfl t4 dX3_clear_12 (fun H locs hw hS => ?_)
  have hw : Wd G ((injC SB) S_5) H := by rw [e5]; exact hw
  refine lv_aload_n C.1.1 C.1.2.1 dX3_clear_15 rfl (lv_at hl 0 rfl) ?_
  refine y_iconst C dX3_clear_16 ⟨by decide, by decide⟩ (fun v6 t6 => ?_)
  obtain ⟨S_7, e7⟩ : ∃ z : St, z = up S_5 x0 3 0 := ⟨_, rfl⟩
  have h := h S_7 e7
  refine y_putI C fl_X3_29 fp_3_3 hw hS (oc_of SB xo0) rfl t6 dX3_clear_17 (fun H locs hw hS => ?_)
  have hw : Wd G ((injC SB) S_7) H := by rw [e7]; exact hw
  refine lv_aload_n C.1.1 C.1.2.1 dX3_clear_20 rfl (lv_at hl 0 rfl) ?_
  refine y_iconst C dX3_clear_21 ⟨by decide, by decide⟩ (fun v8 t8 => ?_)
  obtain ⟨S_9, e9⟩ : ∃ z : St, z = up S_7 x0 4 0 := ⟨_, rfl⟩
  have h := h S_9 e9
  refine y_putI C fl_X3_32 fp_3_4 hw hS (oc_of SB xo0) rfl t8 dX3_clear_22 (fun H locs hw hS => ?_)
  have hw : Wd G ((injC SB) S_9) H := by rw [e9]; exact hw
  refine lv_aload_n C.1.1 C.1.2.1 dX3_clear_25 rfl (lv_at hl 0 rfl) ?_
  refine y_getA C fl_X3_9 hw (oc_of SB xo0) rfl (o := 1) rfl dX3_clear_26 ?_
  refine y_iconst C dX3_clear_29 ⟨by decide, by decide⟩ (fun v11 t11 => ?_)
  refine y_bipush C dX3_clear_30 ⟨by decide, by decide⟩ (fun v12 t12 => ?_)
  obtain ⟨S_13, e13⟩ : ∃ z : St, z = up S_9 (x0 + 1) 0 (-9) := ⟨_, rfl⟩
  have h := h S_13 e13
  refine y_iast C hw hS (ac_3_5 SB xo0) t11 t12 ⟨by decide, by decide⟩ dX3_clear_32 (fun H locs hw hS => ?_)
  have hw : Wd G ((injC SB) S_13) H := by rw [e13]; exact hw
  refine lv_aload_n C.1.1 C.1.2.1 dX3_clear_33 rfl (lv_at hl 0 rfl) ?_
  refine y_getA C fl_X3_9 hw (oc_of SB xo0) rfl (o := 1) rfl dX3_clear_34 ?_
  refine y_iconst C dX3_clear_37 ⟨by decide, by decide⟩ (fun v15 t15 => ?_)
  refine y_bipush C dX3_clear_38 ⟨by decide, by decide⟩ (fun v16 t16 => ?_)
  obtain ⟨S_17, e17⟩ : ∃ z : St, z = up S_13 (x0 + 1) 1 (-9) := ⟨_, rfl⟩
  have h := h S_17 e17
  refine y_iast C hw hS (ac_3_5 SB xo0) t15 t16 ⟨by decide, by decide⟩ dX3_clear_40 (fun H locs hw hS => ?_)
  have hw : Wd G ((injC SB) S_17) H := by rw [e17]; exact hw
  refine lv_aload_n C.1.1 C.1.2.1 dX3_clear_41 rfl (lv_at hl 0 rfl) ?_
  refine y_getA C fl_X3_9 hw (oc_of SB xo0) rfl (o := 1) rfl dX3_clear_42 ?_
  refine y_iconst C dX3_clear_45 ⟨by decide, by decide⟩ (fun v19 t19 => ?_)
  refine y_bipush C dX3_clear_46 ⟨by decide, by decide⟩ (fun v20 t20 => ?_)
  obtain ⟨S_21, e21⟩ : ∃ z : St, z = up S_17 (x0 + 1) 2 (-2) := ⟨_, rfl⟩
  have h := h S_21 e21
  refine y_iast C hw hS (ac_3_5 SB xo0) t19 t20 ⟨by decide, by decide⟩ dX3_clear_48 (fun H locs hw hS => ?_)
  have hw : Wd G ((injC SB) S_21) H := by rw [e21]; exact hw
  exact y_vret C hw hS h dX3_clear_49
theorem kX3_clear (l : Launch) (G : GG) (SB S : St) {x0 : Int} (xo0 : isO 3 x0) {xv1 : Int32} {x1 : Int} (xt1 : xv1.toInt = x1) {k : St → Prop} (h : wX3_clear S x0 x1 k) : CnV l yX3_clear cX3_clear 2 none 0 0 G (injC SB) [.ref (G.2.2 (x0).toNat), .int xv1] S k :=
  cn_body (by decide +kernel) (Nat.le_of_ble_eq_true rfl) (fun p e s m args below meth c ls C hw hl => uX3_clear_0 C hw va_S.rf xo0 xt1 (lv_sub hl [0, 1] rfl) h)
set_option maxHeartbeats 4000000 in
set_option maxRecDepth 10000 in
theorem uX6_varNamed_2_b {p : Program} {l : Launch} {e : Env} {s : State} {m : MethodId} {args : Array Value} {below : List Frame} {meth : Method} {c : Code} {G : GG} {SB : St} (C : Cx p s m args meth c G RX6 cX6_varNamed 4 (some .int)) {S : St} {H : Heap} {locs : List Loc} {ls : Array Slot}  {P2 : Int → Prop} {k : Int → Prop} (hw : Wd G ((injC SB) S) H) (hS : va_S (AG G) s.heap H locs) {x0 : Int} (xo0 : isO 6 x0) {xv1 : Int64} {x1 : Int} (xt1 : xv1.toInt = x1) {xv3 : Int32} {x3 : Int} (xt3 : xv3.toInt = x3) (hl : lv_has ls 4 [(0, .ref (G.2.2 (x0).toNat)), (1, .long xv1), (3, .int xv3)])  (hP2 : ∀ {H : Heap} {locs : List Loc} {ls : Array Slot} {yv3 : Int32} {y3 : Int}, yv3.toInt = y3 → Wd G ((injC SB) S) H → va_S (AG G) s.heap H locs → lv_has ls 4 [(0, .ref (G.2.2 (x0).toNat)), (1, .long xv1), (3, .int yv3)] → P2 y3 → W p l e (rmF 0 0) s m args below meth c H locs 0 0 (MQ below (QcI G (injC SB) (fun r u => k r ∧ u = S)) args s 0 0 (AG G)) (F0 m 2 ls [])) (h : wX6_varNamed_2_b S x0 x1 x3 P2 k) : W p l e (rmF 0 0) s m args below meth c H locs 0 0 (MQ below (QcI G (injC SB) (fun r u => k r ∧ u = S)) args s 0 0 (AG G)) (F0 m 2 ls []) := by
  refine lv_iload_n C.1.1 C.1.2.1 dX6_varNamed_2 rfl (lv_at hl 2 rfl) ?_
  refine lv_aload_n C.1.1 C.1.2.1 dX6_varNamed_3 rfl (lv_at hl 0 rfl) ?_
  refine y_getI C fl_X6_51 hw (oc_of SB xo0) rfl dX6_varNamed_4 (fun v1 t1 => ?_)
  refine y_icmp_ge C xt3 t1 dX6_varNamed_7 (tgt := 29) (by decide) (fun c2 => ?_) (fun c2 => ?_)
  · have h := h.1 c2
    refine y_iconst C dX6_varNamed_29 ⟨by decide, by decide⟩ (fun v3 t3 => ?_)
    exact y_iret C hw hS t3 ⟨h, rfl⟩ dX6_varNamed_30
  · have h := h.2 c2
    refine lv_aload_n C.1.1 C.1.2.1 dX6_varNamed_10 rfl (lv_at hl 0 rfl) ?_
    refine y_getA C fl_X6_9 hw (oc_of SB xo0) rfl (o := 1) rfl dX6_varNamed_11 ?_
    refine lv_iload_n C.1.1 C.1.2.1 dX6_varNamed_14 rfl (lv_at hl 2 rfl) ?_
    obtain ⟨b5, h⟩ := h
    refine y_lald C hw (ac_6_7 SB xo0) xt3 b5 dX6_varNamed_15 (fun v5 t5 => ?_)
    refine lv_lload_n C.1.1 C.1.2.1 dX6_varNamed_16 rfl (lv_at hl 1 rfl) ?_
    refine y_lcmp C t5 xt1 dX6_varNamed_17 (fun v6 t6 => ?_)
    refine y_if_ne C t6 dX6_varNamed_18 (tgt := 23) (by decide) (fun c7 => ?_) (fun c7 => ?_)
    · have c7 := cmp_ne.mp c7
      have h := h.1 c7
      obtain ⟨x_8, e8⟩ : ∃ z : Int, z = w32 (x3 + 1) := ⟨_, rfl⟩
      have h := h x_8 e8
      obtain ⟨v8, t8, g8⟩ : ∃ z : Int32, z.toInt = x_8 ∧ xv3 + Int32.ofInt 1 = z := ⟨_, (ti_inc xt3 ⟨by decide, by decide⟩).trans e8.symm, rfl⟩
      refine lv_iinc (v := v8) (lv' := [(3, .int v8), (0, .ref (G.2.2 (x0).toNat)), (1, .long xv1)]) C.1.1 C.1.2.1 dX6_varNamed_23 hl (k := 2) rfl g8 (by decide) rfl (fun ls hl => ?_)
      refine lv_goto (tgt := 2) C.1.1 C.1.2.1 dX6_varNamed_26 (by decide) ?_
      exact hP2 t8 hw hS (lv_sub hl [1, 2, 0] rfl) h
    · have c7 := cmp_eq.mp c7
      have h := h.2 c7
      refine lv_iload_n C.1.1 C.1.2.1 dX6_varNamed_21 rfl (lv_at hl 2 rfl) ?_
      exact y_iret C hw hS xt3 ⟨h, rfl⟩ dX6_varNamed_22
set_option maxHeartbeats 4000000 in
set_option maxRecDepth 10000 in
theorem uX6_varNamed_2 {p : Program} {l : Launch} {e : Env} {s : State} {m : MethodId} {args : Array Value} {below : List Frame} {meth : Method} {c : Code} {G : GG} {SB : St} (C : Cx p s m args meth c G RX6 cX6_varNamed 4 (some .int)) {S : St} {H : Heap} {locs : List Loc} {ls : Array Slot}  {k : Int → Prop} (hw : Wd G ((injC SB) S) H) (hS : va_S (AG G) s.heap H locs) {x0 : Int} (xo0 : isO 6 x0) {xv1 : Int64} {x1 : Int} (xt1 : xv1.toInt = x1) {xv3 : Int32} {x3 : Int} (xt3 : xv3.toInt = x3) (hl : lv_has ls 4 [(0, .ref (G.2.2 (x0).toNat)), (1, .long xv1), (3, .int xv3)])  (h : wX6_varNamed_2 S x0 x1 x3 k) : W p l e (rmF 0 0) s m args below meth c H locs 0 0 (MQ below (QcI G (injC SB) (fun r u => k r ∧ u = S)) args s 0 0 (AG G)) (F0 m 2 ls []) := by
  have key : ∀ (n : Nat) {H : Heap} {locs : List Loc} {ls : Array Slot} {xv3 : Int32} {x3 : Int}, xv3.toInt = x3 → Wd G ((injC SB) S) H → va_S (AG G) s.heap H locs → lv_has ls 4 [(0, .ref (G.2.2 (x0).toNat)), (1, .long xv1), (3, .int xv3)] → itP (fun (P : Int → Prop) (a : Int) => wX6_varNamed_2_b S x0 x1 a (fun b0 => P (b0)) k) n (x3) → W p l e (rmF 0 0) s m args below meth c H locs 0 0 (MQ below (QcI G (injC SB) (fun r u => k r ∧ u = S)) args s 0 0 (AG G)) (F0 m 2 ls []) := by
    intro n
    induction n with
    | zero => intro H locs ls xv3 x3 xt3 hw hS hl h; exact h.elim
    | succ n ih =>
      intro H locs ls xv3 x3 xt3 hw hS hl h
      exact uX6_varNamed_2_b C hw hS xo0 xt1 xt3 hl  (P2 := fun b0 => itP _ n (b0)) (fun q0 hw hS hl h => ih q0 hw hS hl h) h
  obtain ⟨n, hn⟩ := h
  exact key n xt3 hw hS hl hn
set_option maxHeartbeats 4000000 in
set_option maxRecDepth 10000 in
theorem uX6_varNamed_0 {p : Program} {l : Launch} {e : Env} {s : State} {m : MethodId} {args : Array Value} {below : List Frame} {meth : Method} {c : Code} {G : GG} {SB : St} (C : Cx p s m args meth c G RX6 cX6_varNamed 4 (some .int)) {S : St} {H : Heap} {locs : List Loc} {ls : Array Slot}  {k : Int → Prop} (hw : Wd G ((injC SB) S) H) (hS : va_S (AG G) s.heap H locs) {x0 : Int} (xo0 : isO 6 x0) {xv1 : Int64} {x1 : Int} (xt1 : xv1.toInt = x1) (hl : lv_has ls 4 [(0, .ref (G.2.2 (x0).toNat)), (1, .long xv1)])  (h : wX6_varNamed_0 S x0 x1 k) : W p l e (rmF 0 0) s m args below meth c H locs 0 0 (MQ below (QcI G (injC SB) (fun r u => k r ∧ u = S)) args s 0 0 (AG G)) (F0 m 0 ls []) := by
  refine y_iconst C dX6_varNamed_0 ⟨by decide, by decide⟩ (fun v1 t1 => ?_)
  refine lv_istore_n (lv' := [(3, .int v1), (0, .ref (G.2.2 (x0).toNat)), (1, .long xv1)]) C.1.1 C.1.2.1 dX6_varNamed_1 rfl hl (by decide) rfl (fun ls hl => ?_)
  exact uX6_varNamed_2 C hw hS xo0 xt1 t1 (lv_sub hl [1, 2, 0] rfl)  h
theorem kX6_varNamed (l : Launch) (G : GG) (SB S : St) {x0 : Int} (xo0 : isO 6 x0) {xv1 : Int64} {x1 : Int} (xt1 : xv1.toInt = x1) {k : Int → Prop} (h : wX6_varNamed S x0 x1 k) : CnI l yX6_varNamed cX6_varNamed 4 (some .int) 0 0 G (injC SB) [.ref (G.2.2 (x0).toNat), .long xv1] S (fun r u => k r ∧ u = S) :=
  cn_body (by decide +kernel) (Nat.le_of_ble_eq_true rfl) (fun p e s m args below meth c ls C hw hl => uX6_varNamed_0 C hw va_S.rf xo0 xt1 (lv_sub hl [0, 1] rfl) h)
set_option maxHeartbeats 4000000 in
set_option maxRecDepth 10000 in
theorem uX6_clear_0 {p : Program} {l : Launch} {e : Env} {s : State} {m : MethodId} {args : Array Value} {below : List Frame} {meth : Method} {c : Code} {G : GG} {SB : St} (C : Cx p s m args meth c G RX6 cX6_clear 5 none) {S : St} {H : Heap} {locs : List Loc} {ls : Array Slot}  {k : St → Prop} (hw : Wd G ((injC SB) S) H) (hS : va_S (AG G) s.heap H locs) {x0 : Int} (xo0 : isO 6 x0) {xv1 : Int32} {x1 : Int} (xt1 : xv1.toInt = x1) {xv2 : Int32} {x2 : Int} (xt2 : xv2.toInt = x2) {xv3 : Int32} {x3 : Int} (xt3 : xv3.toInt = x3) {xv4 : Int32} {x4 : Int} (xt4 : xv4.toInt = x4) (hl : lv_has ls 5 [(0, .ref (G.2.2 (x0).toNat)), (1, .int xv1), (2, .int xv2), (3, .int xv3), (4, .int xv4)])  (h : wX6_clear_0 S x0 x1 x2 x3 x4 k) : W p l e (rmF 0 0) s m args below meth c H locs 0 0 (MQ below (QcV G (injC SB) k) args s 0 0 (AG G)) (F0 m 0 ls []) := by
  refine lv_aload_n C.1.1 C.1.2.1 dX6_clear_0 rfl (lv_at hl 0 rfl) ?_
  refine lv_iload_n C.1.1 C.1.2.1 dX6_clear_1 rfl (lv_at hl 1 rfl) ?_
  obtain ⟨S_1, e1⟩ : ∃ z : St, z = up S x0 4 x1 := ⟨_, rfl⟩
  have h := h S_1 e1
  refine y_putI C fl_X6_32 fp_6_4 hw hS (oc_of SB xo0) rfl xt1 dX6_clear_2 (fun H locs hw hS => ?_)
  have hw : Wd G ((injC SB) S_1) H := by rw [e1]; exact hw
  refine lv_aload_n C.1.1 C.1.2.1 dX6_clear_5 rfl (lv_at hl 0 rfl) ?_
  refine lv_iload_n C.1.1 C.1.2.1 dX6_clear_6 rfl (lv_at hl 2 rfl) ?_
  obtain ⟨S_2, e2⟩ : ∃ z : St, z = up S_1 x0 2 x2 := ⟨_, rfl⟩
  have h := h S_2 e2
  refine y_putI C fl_X6_35 fp_6_2 hw hS (oc_of SB xo0) rfl xt2 dX6_clear_7 (fun H locs hw hS => ?_)
  have hw : Wd G ((injC SB) S_2) H := by rw [e2]; exact hw
  refine lv_aload_n C.1.1 C.1.2.1 dX6_clear_10 rfl (lv_at hl 0 rfl) ?_
  refine lv_iload_n C.1.1 C.1.2.1 dX6_clear_11 rfl (lv_at hl 3 rfl) ?_
  obtain ⟨S_3, e3⟩ : ∃ z : St, z = up S_2 x0 3 x3 := ⟨_, rfl⟩
  have h := h S_3 e3
  refine y_putI C fl_X6_38 fp_6_3 hw hS (oc_of SB xo0) rfl xt3 dX6_clear_12 (fun H locs hw hS => ?_)
  have hw : Wd G ((injC SB) S_3) H := by rw [e3]; exact hw
  refine lv_aload_n C.1.1 C.1.2.1 dX6_clear_15 rfl (lv_at hl 0 rfl) ?_
  refine lv_iload C.1.1 C.1.2.1 dX6_clear_16 (lv_at hl 4 rfl) ?_
  obtain ⟨S_4, e4⟩ : ∃ z : St, z = up S_3 x0 16 x4 := ⟨_, rfl⟩
  have h := h S_4 e4
  refine y_putI C fl_X6_41 fp_6_16 hw hS (oc_of SB xo0) rfl xt4 dX6_clear_18 (fun H locs hw hS => ?_)
  have hw : Wd G ((injC SB) S_4) H := by rw [e4]; exact hw
  refine lv_aload_n C.1.1 C.1.2.1 dX6_clear_21 rfl (lv_at hl 0 rfl) ?_
  refine y_lconst0 C dX6_clear_22 (fun v5 t5 => ?_)
  obtain ⟨S_6, e6⟩ : ∃ z : St, z = up S_4 x0 1 0 := ⟨_, rfl⟩
  have h := h S_6 e6
  refine y_putJ C fl_X6_44 fp_6_1 hw hS (oc_of SB xo0) rfl t5 dX6_clear_23 (fun H locs hw hS => ?_)
  have hw : Wd G ((injC SB) S_6) H := by rw [e6]; exact hw
  refine lv_aload_n C.1.1 C.1.2.1 dX6_clear_26 rfl (lv_at hl 0 rfl) ?_
  refine lv_aload_n C.1.1 C.1.2.1 dX6_clear_27 rfl (lv_at hl 0 rfl) ?_
  refine y_getI C fl_X6_28 hw (oc_of SB xo0) rfl dX6_clear_28 (fun v7 t7 => ?_)
  obtain ⟨S_8, e8⟩ : ∃ z : St, z = up S_6 x0 5 (S_6 x0 0) := ⟨_, rfl⟩
  have h := h S_8 e8
  refine y_putI C fl_X6_48 fp_6_5 hw hS (oc_of SB xo0) rfl t7 dX6_clear_31 (fun H locs hw hS => ?_)
  have hw : Wd G ((injC SB) S_8) H := by rw [e8]; exact hw
  refine lv_aload_n C.1.1 C.1.2.1 dX6_clear_34 rfl (lv_at hl 0 rfl) ?_
  refine y_iconst C dX6_clear_35 ⟨by decide, by decide⟩ (fun v9 t9 => ?_)
  obtain ⟨S_10, e10⟩ : ∃ z : St, z = up S_8 x0 6 0 := ⟨_, rfl⟩
  have h := h S_10 e10
  refine y_putI C fl_X6_51 fp_6_6 hw hS (oc_of SB xo0) rfl t9 dX6_clear_36 (fun H locs hw hS => ?_)
  have hw : Wd G ((injC SB) S_10) H := by rw [e10]; exact hw
  refine lv_aload_n C.1.1 C.1.2.1 dX6_clear_39 rfl (lv_at hl 0 rfl) ?_
  refine y_iconst C dX6_clear_40 ⟨by decide, by decide⟩ (fun v11 t11 => ?_)
  obtain ⟨S_12, e12⟩ : ∃ z : St, z = up S_10 x0 9 0 := ⟨_, rfl⟩
  have h := h S_12 e12
  refine y_putI C fl_X6_54 fp_6_9 hw hS (oc_of SB xo0) rfl t11 dX6_clear_41 (fun H locs hw hS => ?_)
  have hw : Wd G ((injC SB) S_12) H := by rw [e12]; exact hw
  refine lv_aload_n C.1.1 C.1.2.1 dX6_clear_44 rfl (lv_at hl 0 rfl) ?_
  refine y_iconst C dX6_clear_45 ⟨by decide, by decide⟩ (fun v13 t13 => ?_)
  obtain ⟨S_14, e14⟩ : ∃ z : St, z = up S_12 x0 11 (-1) := ⟨_, rfl⟩
  have h := h S_14 e14
  refine y_putI C fl_X6_57 fp_6_11 hw hS (oc_of SB xo0) rfl t13 dX6_clear_46 (fun H locs hw hS => ?_)
  have hw : Wd G ((injC SB) S_14) H := by rw [e14]; exact hw
  refine lv_aload_n C.1.1 C.1.2.1 dX6_clear_49 rfl (lv_at hl 0 rfl) ?_
  refine y_iconst C dX6_clear_50 ⟨by decide, by decide⟩ (fun v15 t15 => ?_)
  obtain ⟨S_16, e16⟩ : ∃ z : St, z = up S_14 x0 12 0 := ⟨_, rfl⟩
  have h := h S_16 e16
  refine y_putI C fl_X6_60 fp_6_12 hw hS (oc_of SB xo0) rfl t15 dX6_clear_51 (fun H locs hw hS => ?_)
  have hw : Wd G ((injC SB) S_16) H := by rw [e16]; exact hw
  refine lv_aload_n C.1.1 C.1.2.1 dX6_clear_54 rfl (lv_at hl 0 rfl) ?_
  refine y_iconst C dX6_clear_55 ⟨by decide, by decide⟩ (fun v17 t17 => ?_)
  obtain ⟨S_18, e18⟩ : ∃ z : St, z = up S_16 x0 14 0 := ⟨_, rfl⟩
  have h := h S_18 e18
  refine y_putI C fl_X6_63 fp_6_14 hw hS (oc_of SB xo0) rfl t17 dX6_clear_56 (fun H locs hw hS => ?_)
  have hw : Wd G ((injC SB) S_18) H := by rw [e18]; exact hw
  refine lv_aload_n C.1.1 C.1.2.1 dX6_clear_59 rfl (lv_at hl 0 rfl) ?_
  refine y_iconst C dX6_clear_60 ⟨by decide, by decide⟩ (fun v19 t19 => ?_)
  obtain ⟨S_20, e20⟩ : ∃ z : St, z = up S_18 x0 17 0 := ⟨_, rfl⟩
  have h := h S_20 e20
  refine y_putI C fl_X6_66 fp_6_17 hw hS (oc_of SB xo0) rfl t19 dX6_clear_61 (fun H locs hw hS => ?_)
  have hw : Wd G ((injC SB) S_20) H := by rw [e20]; exact hw
  refine lv_aload_n C.1.1 C.1.2.1 dX6_clear_64 rfl (lv_at hl 0 rfl) ?_
  refine y_iconst C dX6_clear_65 ⟨by decide, by decide⟩ (fun v21 t21 => ?_)
  obtain ⟨S_22, e22⟩ : ∃ z : St, z = up S_20 x0 18 0 := ⟨_, rfl⟩
  have h := h S_22 e22
  refine y_putI C fl_X6_69 fp_6_18 hw hS (oc_of SB xo0) rfl t21 dX6_clear_66 (fun H locs hw hS => ?_)
  have hw : Wd G ((injC SB) S_22) H := by rw [e22]; exact hw
  refine lv_aload_n C.1.1 C.1.2.1 dX6_clear_69 rfl (lv_at hl 0 rfl) ?_
  refine y_iconst C dX6_clear_70 ⟨by decide, by decide⟩ (fun v23 t23 => ?_)
  obtain ⟨S_24, e24⟩ : ∃ z : St, z = up S_22 x0 19 0 := ⟨_, rfl⟩
  have h := h S_24 e24
  refine y_putI C fl_X6_72 fp_6_19 hw hS (oc_of SB xo0) rfl t23 dX6_clear_71 (fun H locs hw hS => ?_)
  have hw : Wd G ((injC SB) S_24) H := by rw [e24]; exact hw
  exact y_vret C hw hS h dX6_clear_74
theorem kX6_clear (l : Launch) (G : GG) (SB S : St) {x0 : Int} (xo0 : isO 6 x0) {xv1 : Int32} {x1 : Int} (xt1 : xv1.toInt = x1) {xv2 : Int32} {x2 : Int} (xt2 : xv2.toInt = x2) {xv3 : Int32} {x3 : Int} (xt3 : xv3.toInt = x3) {xv4 : Int32} {x4 : Int} (xt4 : xv4.toInt = x4) {k : St → Prop} (h : wX6_clear S x0 x1 x2 x3 x4 k) : CnV l yX6_clear cX6_clear 5 none 0 0 G (injC SB) [.ref (G.2.2 (x0).toNat), .int xv1, .int xv2, .int xv3, .int xv4] S k :=
  cn_body (by decide +kernel) (Nat.le_of_ble_eq_true rfl) (fun p e s m args below meth c ls C hw hl => uX6_clear_0 C hw va_S.rf xo0 xt1 xt2 xt3 xt4 (lv_sub hl [0, 1, 2, 3, 4] rfl) h)
set_option maxHeartbeats 4000000 in
set_option maxRecDepth 10000 in
theorem uX8_in_0 {p : Program} {l : Launch} {e : Env} {s : State} {m : MethodId} {args : Array Value} {below : List Frame} {meth : Method} {c : Code} {G : GG} {SB : St} (C : Cx p s m args meth c G RX8 cX8_in 3 (some .boolean)) {S : St} {H : Heap} {locs : List Loc} {ls : Array Slot}  {k : Int → Prop} (hw : Wd G ((injR SB) S) H) (hS : va_S (AG G) s.heap H locs) {xv0 : Int32} {x0 : Int} (xt0 : xv0.toInt = x0) {xv1 : Int32} {x1 : Int} (xt1 : xv1.toInt = x1) {xv2 : Int32} {x2 : Int} (xt2 : xv2.toInt = x2) (hl : lv_has ls 3 [(0, .int xv0), (1, .int xv1), (2, .int xv2)])  (h : wX8_in_0 S x0 x1 x2 k) : W p l e (rmF 0 0) s m args below meth c H locs 0 0 (MQ below (QcI G (injR SB) (fun r u => k r ∧ u = S)) args s 0 0 (AG G)) (F0 m 0 ls []) := by
  refine lv_iload_n C.1.1 C.1.2.1 dX8_in_0 rfl (lv_at hl 0 rfl) ?_
  refine lv_iload_n C.1.1 C.1.2.1 dX8_in_1 rfl (lv_at hl 1 rfl) ?_
  refine y_icmp_lt C xt0 xt1 dX8_in_2 (tgt := 14) (by decide) (fun c1 => ?_) (fun c1 => ?_)
  · have h := h.1 c1
    refine y_iconst C dX8_in_14 ⟨by decide, by decide⟩ (fun v2 t2 => ?_)
    exact y_zret C hw hS t2 (Or.inl rfl) ⟨h, rfl⟩ dX8_in_15
  · have h := h.2 c1
    refine lv_iload_n C.1.1 C.1.2.1 dX8_in_5 rfl (lv_at hl 0 rfl) ?_
    refine lv_iload_n C.1.1 C.1.2.1 dX8_in_6 rfl (lv_at hl 2 rfl) ?_
    refine y_icmp_gt C xt0 xt2 dX8_in_7 (tgt := 14) (by decide) (fun c3 => ?_) (fun c3 => ?_)
    · have h := h.1 c3
      refine y_iconst C dX8_in_14 ⟨by decide, by decide⟩ (fun v4 t4 => ?_)
      exact y_zret C hw hS t4 (Or.inl rfl) ⟨h, rfl⟩ dX8_in_15
    · have h := h.2 c3
      refine y_iconst C dX8_in_10 ⟨by decide, by decide⟩ (fun v5 t5 => ?_)
      refine lv_goto (tgt := 15) C.1.1 C.1.2.1 dX8_in_11 (by decide) ?_
      exact y_zret C hw hS t5 (Or.inr rfl) ⟨h, rfl⟩ dX8_in_15
theorem kX8_in (l : Launch) (G : GG) (SB S : St) {xv0 : Int32} {x0 : Int} (xt0 : xv0.toInt = x0) {xv1 : Int32} {x1 : Int} (xt1 : xv1.toInt = x1) {xv2 : Int32} {x2 : Int} (xt2 : xv2.toInt = x2) {k : Int → Prop} (h : wX8_in S x0 x1 x2 k) : CnI l yX8_in cX8_in 3 (some .boolean) 0 0 G (injR SB) [.int xv0, .int xv1, .int xv2] S (fun r u => k r ∧ u = S) :=
  cn_body (by decide +kernel) (Nat.le_of_ble_eq_true rfl) (fun p e s m args below meth c ls C hw hl => uX8_in_0 C hw va_S.rf xt0 xt1 xt2 (lv_sub hl [0, 1, 2] rfl) h)
set_option maxHeartbeats 4000000 in
set_option maxRecDepth 10000 in
theorem uX8_t_0 {p : Program} {l : Launch} {e : Env} {s : State} {m : MethodId} {args : Array Value} {below : List Frame} {meth : Method} {c : Code} {G : GG} {SB : St} (C : Cx p s m args meth c G RX8 cX8_t 2 (some .int)) {S : St} {H : Heap} {locs : List Loc} {ls : Array Slot}  {k : Int → Prop} (hw : Wd G ((injR SB) S) H) (hS : va_S (AG G) s.heap H locs) {xv1 : Int32} {x1 : Int} (xt1 : xv1.toInt = x1) (hl : lv_has ls 2 [(0, .ref (G.2.2 1042)), (1, .int xv1)])  (h : wX8_t_0 S x1 k) : W p l e (rmF 0 0) s m args below meth c H locs 0 0 (MQ below (QcI G (injR SB) (fun r u => k r ∧ u = S)) args s 0 0 (AG G)) (F0 m 0 ls []) := by
  refine y_bipush C dX8_t_0 ⟨by decide, by decide⟩ (fun v1 t1 => ?_)
  refine lv_aload_n C.1.1 C.1.2.1 dX8_t_2 rfl (lv_at hl 0 rfl) ?_
  refine y_getI C fl_X8_208 hw (ocr SB) rfl dX8_t_3 (fun v2 t2 => ?_)
  refine y_imul C t1 t2 dX8_t_6 (fun v3 t3 => ?_)
  refine lv_iload_n C.1.1 C.1.2.1 dX8_t_7 rfl (lv_at hl 1 rfl) ?_
  refine y_iadd C t3 xt1 dX8_t_8 (fun v4 t4 => ?_)
  exact y_iret C hw hS t4 ⟨h, rfl⟩ dX8_t_9
theorem kX8_t (l : Launch) (G : GG) (SB S : St) {xv1 : Int32} {x1 : Int} (xt1 : xv1.toInt = x1) {k : Int → Prop} (h : wX8_t S x1 k) : CnI l yX8_t cX8_t 2 (some .int) 0 0 G (injR SB) [.ref (G.2.2 1042), .int xv1] S (fun r u => k r ∧ u = S) :=
  cn_body (by decide +kernel) (Nat.le_of_ble_eq_true rfl) (fun p e s m args below meth c ls C hw hl => uX8_t_0 C hw va_S.rf xt1 (lv_sub hl [0, 1] rfl) h)
set_option maxHeartbeats 4000000 in
set_option maxRecDepth 10000 in
theorem uX8_m_0 {p : Program} {l : Launch} {e : Env} {s : State} {m : MethodId} {args : Array Value} {below : List Frame} {meth : Method} {c : Code} {G : GG} {SB : St} (C : Cx p s m args meth c G RX8 cX8_m 2 (some .int)) {S : St} {H : Heap} {locs : List Loc} {ls : Array Slot}  {k : Int → Prop} (hw : Wd G ((injR SB) S) H) (hS : va_S (AG G) s.heap H locs) {xv1 : Int32} {x1 : Int} (xt1 : xv1.toInt = x1) (hl : lv_has ls 2 [(0, .ref (G.2.2 1042)), (1, .int xv1)])  (h : wX8_m_0 S x1 k) : W p l e (rmF 0 0) s m args below meth c H locs 0 0 (MQ below (QcI G (injR SB) (fun r u => k r ∧ u = S)) args s 0 0 (AG G)) (F0 m 0 ls []) := by
  refine y_bipush C dX8_m_0 ⟨by decide, by decide⟩ (fun v1 t1 => ?_)
  refine lv_aload_n C.1.1 C.1.2.1 dX8_m_2 rfl (lv_at hl 0 rfl) ?_
  refine y_getI C fl_X8_208 hw (ocr SB) rfl dX8_m_3 (fun v2 t2 => ?_)
  refine y_imul C t1 t2 dX8_m_6 (fun v3 t3 => ?_)
  refine lv_iload_n C.1.1 C.1.2.1 dX8_m_7 rfl (lv_at hl 1 rfl) ?_
  refine y_iadd C t3 xt1 dX8_m_8 (fun v4 t4 => ?_)
  exact y_iret C hw hS t4 ⟨h, rfl⟩ dX8_m_9
theorem kX8_m (l : Launch) (G : GG) (SB S : St) {xv1 : Int32} {x1 : Int} (xt1 : xv1.toInt = x1) {k : Int → Prop} (h : wX8_m S x1 k) : CnI l yX8_m cX8_m 2 (some .int) 0 0 G (injR SB) [.ref (G.2.2 1042), .int xv1] S (fun r u => k r ∧ u = S) :=
  cn_body (by decide +kernel) (Nat.le_of_ble_eq_true rfl) (fun p e s m args below meth c ls C hw hl => uX8_m_0 C hw va_S.rf xt1 (lv_sub hl [0, 1] rfl) h)
set_option maxHeartbeats 4000000 in
set_option maxRecDepth 10000 in
theorem uX8_isUnder_0 {p : Program} {l : Launch} {e : Env} {s : State} {m : MethodId} {args : Array Value} {below : List Frame} {meth : Method} {c : Code} {G : GG} {SB : St} (C : Cx p s m args meth c G RX8 cX8_isUnder 3 (some .boolean)) {S : St} {H : Heap} {locs : List Loc} {ls : Array Slot}  {k : Int → Prop} (hw : Wd G ((injR SB) S) H) (hS : va_S (AG G) s.heap H locs) {xv1 : Int32} {x1 : Int} (xt1 : xv1.toInt = x1) {xv2 : Int32} {x2 : Int} (xt2 : xv2.toInt = x2) (hl : lv_has ls 3 [(0, .ref (G.2.2 1042)), (1, .int xv1), (2, .int xv2)])  (h : wX8_isUnder_0 S x1 x2 k) : W p l e (rmF 1 21) s m args below meth c H locs 0 0 (MQ below (QcI G (injR SB) (fun r u => k r ∧ u = S)) args s 0 0 (AG G)) (F0 m 0 ls []) := by
  refine lv_iload_n C.1.1 C.1.2.1 dX8_isUnder_0 rfl (lv_at hl 1 rfl) ?_
  refine lv_iload_n C.1.1 C.1.2.1 dX8_isUnder_1 rfl (lv_at hl 2 rfl) ?_
  refine y_icmp_eq C xt1 xt2 dX8_isUnder_2 (tgt := 23) (by decide) (fun c1 => ?_) (fun c1 => ?_)
  · have h := h.1 c1
    refine y_iconst C dX8_isUnder_23 ⟨by decide, by decide⟩ (fun v2 t2 => ?_)
    refine lv_goto (tgt := 28) C.1.1 C.1.2.1 dX8_isUnder_24 (by decide) ?_
    exact y_zret C hw hS t2 (Or.inr rfl) ⟨h, rfl⟩ dX8_isUnder_28
  · have h := h.2 c1
    refine lv_aload_n C.1.1 C.1.2.1 dX8_isUnder_5 rfl (lv_at hl 0 rfl) ?_
    refine y_getA C fl_X8_103 hw (ocr SB) rfl (o := 22) rfl dX8_isUnder_6 ?_
    refine y_bipush C dX8_isUnder_9 ⟨by decide, by decide⟩ (fun v4 t4 => ?_)
    refine lv_aload_n C.1.1 C.1.2.1 dX8_isUnder_11 rfl (lv_at hl 0 rfl) ?_
    refine lv_iload_n C.1.1 C.1.2.1 dX8_isUnder_12 rfl (lv_at hl 1 rfl) ?_
    refine y_cVIp C (As := [.int xv1]) (rest := [.int v4, .ref (G.2.2 (1064))]) ml_X8_214 (kX8_t l G SB S xt1 h) (ocr SB) (T := TX8) (N := 60) rfl (by decide) ⟨(Nat.le_of_ble_eq_true rfl), (Nat.le_of_ble_eq_true rfl)⟩ hl.1 rfl rfl (Nat.le_of_ble_eq_true rfl) hw hS dX8_isUnder_13 (fun v5 x_5 H locs t5 h hw hS => ?_)
    refine y_imul C t4 t5 dX8_isUnder_16 (fun v6 t6 => ?_)
    refine lv_iload_n C.1.1 C.1.2.1 dX8_isUnder_17 rfl (lv_at hl 2 rfl) ?_
    refine y_iadd C t6 xt2 dX8_isUnder_18 (fun v7 t7 => ?_)
    obtain ⟨b8, h⟩ := h
    refine y_zald C hw (acr_31 SB) t7 b8 dX8_isUnder_19 (fun v8 t8 => ?_)
    refine y_if_eq C t8 dX8_isUnder_20 (tgt := 27) (by decide) (fun c9 => ?_) (fun c9 => ?_)
    · have h := h.1 c9
      refine y_iconst C dX8_isUnder_27 ⟨by decide, by decide⟩ (fun v10 t10 => ?_)
      exact y_zret C hw hS t10 (Or.inl rfl) ⟨h, rfl⟩ dX8_isUnder_28
    · have h := h.2 c9
      refine y_iconst C dX8_isUnder_23 ⟨by decide, by decide⟩ (fun v11 t11 => ?_)
      refine lv_goto (tgt := 28) C.1.1 C.1.2.1 dX8_isUnder_24 (by decide) ?_
      exact y_zret C hw hS t11 (Or.inr rfl) ⟨h, rfl⟩ dX8_isUnder_28
theorem kX8_isUnder (l : Launch) (G : GG) (SB S : St) {xv1 : Int32} {x1 : Int} (xt1 : xv1.toInt = x1) {xv2 : Int32} {x2 : Int} (xt2 : xv2.toInt = x2) {k : Int → Prop} (h : wX8_isUnder S x1 x2 k) : CnI l yX8_isUnder cX8_isUnder 3 (some .boolean) 1 21 G (injR SB) [.ref (G.2.2 1042), .int xv1, .int xv2] S (fun r u => k r ∧ u = S) :=
  cn_body (by decide +kernel) (Nat.le_of_ble_eq_true rfl) (fun p e s m args below meth c ls C hw hl => uX8_isUnder_0 C hw va_S.rf xt1 xt2 (lv_sub hl [0, 1, 2] rfl) h)
set_option maxHeartbeats 4000000 in
set_option maxRecDepth 10000 in
theorem uX8_isSamePackage_0 {p : Program} {l : Launch} {e : Env} {s : State} {m : MethodId} {args : Array Value} {below : List Frame} {meth : Method} {c : Code} {G : GG} {SB : St} (C : Cx p s m args meth c G RX8 cX8_isSamePackage 3 (some .boolean)) {S : St} {H : Heap} {locs : List Loc} {ls : Array Slot}  {k : Int → Prop} (hw : Wd G ((injR SB) S) H) (hS : va_S (AG G) s.heap H locs) {xv1 : Int32} {x1 : Int} (xt1 : xv1.toInt = x1) {xv2 : Int32} {x2 : Int} (xt2 : xv2.toInt = x2) (hl : lv_has ls 3 [(0, .ref (G.2.2 1042)), (1, .int xv1), (2, .int xv2)])  (h : wX8_isSamePackage_0 S x1 x2 k) : W p l e (rmF 1 21) s m args below meth c H locs 0 0 (MQ below (QcI G (injR SB) (fun r u => k r ∧ u = S)) args s 0 0 (AG G)) (F0 m 0 ls []) := by
  refine lv_aload_n C.1.1 C.1.2.1 dX8_isSamePackage_0 rfl (lv_at hl 0 rfl) ?_
  refine y_getA C fl_X8_64 hw (ocr SB) rfl (o := 9) rfl dX8_isSamePackage_1 ?_
  refine lv_aload_n C.1.1 C.1.2.1 dX8_isSamePackage_4 rfl (lv_at hl 0 rfl) ?_
  refine lv_iload_n C.1.1 C.1.2.1 dX8_isSamePackage_5 rfl (lv_at hl 1 rfl) ?_
  refine y_cVIp C (As := [.int xv1]) (rest := [.ref (G.2.2 (1051))]) ml_X8_214 (kX8_t l G SB S xt1 h) (ocr SB) (T := TX8) (N := 60) rfl (by decide) ⟨(Nat.le_of_ble_eq_true rfl), (Nat.le_of_ble_eq_true rfl)⟩ hl.1 rfl rfl (Nat.le_of_ble_eq_true rfl) hw hS dX8_isSamePackage_6 (fun v2 x_2 H locs t2 h hw hS => ?_)
  obtain ⟨b3, h⟩ := h
  refine y_iald C hw (acr_18 SB) t2 b3 dX8_isSamePackage_9 (fun v3 t3 => ?_)
  refine lv_aload_n C.1.1 C.1.2.1 dX8_isSamePackage_10 rfl (lv_at hl 0 rfl) ?_
  refine y_getA C fl_X8_64 hw (ocr SB) rfl (o := 9) rfl dX8_isSamePackage_11 ?_
  refine lv_aload_n C.1.1 C.1.2.1 dX8_isSamePackage_14 rfl (lv_at hl 0 rfl) ?_
  refine lv_iload_n C.1.1 C.1.2.1 dX8_isSamePackage_15 rfl (lv_at hl 2 rfl) ?_
  refine y_cVIp C (As := [.int xv2]) (rest := [.ref (G.2.2 (1051)), .int v3]) ml_X8_214 (kX8_t l G SB S xt2 h) (ocr SB) (T := TX8) (N := 60) rfl (by decide) ⟨(Nat.le_of_ble_eq_true rfl), (Nat.le_of_ble_eq_true rfl)⟩ hl.1 rfl rfl (Nat.le_of_ble_eq_true rfl) hw hS dX8_isSamePackage_16 (fun v5 x_5 H locs t5 h hw hS => ?_)
  obtain ⟨b6, h⟩ := h
  refine y_iald C hw (acr_18 SB) t5 b6 dX8_isSamePackage_19 (fun v6 t6 => ?_)
  refine y_icmp_ne C t3 t6 dX8_isSamePackage_20 (tgt := 50) (by decide) (fun c7 => ?_) (fun c7 => ?_)
  · have h := h.1 c7
    refine y_iconst C dX8_isSamePackage_50 ⟨by decide, by decide⟩ (fun v8 t8 => ?_)
    exact y_zret C hw hS t8 (Or.inl rfl) ⟨h, rfl⟩ dX8_isSamePackage_51
  · have h := h.2 c7
    refine lv_aload_n C.1.1 C.1.2.1 dX8_isSamePackage_23 rfl (lv_at hl 0 rfl) ?_
    refine y_getA C fl_X8_67 hw (ocr SB) rfl (o := 10) rfl dX8_isSamePackage_24 ?_
    refine lv_aload_n C.1.1 C.1.2.1 dX8_isSamePackage_27 rfl (lv_at hl 0 rfl) ?_
    refine lv_iload_n C.1.1 C.1.2.1 dX8_isSamePackage_28 rfl (lv_at hl 1 rfl) ?_
    refine y_cVIp C (As := [.int xv1]) (rest := [.ref (G.2.2 (1052))]) ml_X8_214 (kX8_t l G SB S xt1 h) (ocr SB) (T := TX8) (N := 60) rfl (by decide) ⟨(Nat.le_of_ble_eq_true rfl), (Nat.le_of_ble_eq_true rfl)⟩ hl.1 rfl rfl (Nat.le_of_ble_eq_true rfl) hw hS dX8_isSamePackage_29 (fun v10 x_10 H locs t10 h hw hS => ?_)
    obtain ⟨b11, h⟩ := h
    refine y_iald C hw (acr_19 SB) t10 b11 dX8_isSamePackage_32 (fun v11 t11 => ?_)
    refine lv_aload_n C.1.1 C.1.2.1 dX8_isSamePackage_33 rfl (lv_at hl 0 rfl) ?_
    refine y_getA C fl_X8_67 hw (ocr SB) rfl (o := 10) rfl dX8_isSamePackage_34 ?_
    refine lv_aload_n C.1.1 C.1.2.1 dX8_isSamePackage_37 rfl (lv_at hl 0 rfl) ?_
    refine lv_iload_n C.1.1 C.1.2.1 dX8_isSamePackage_38 rfl (lv_at hl 2 rfl) ?_
    refine y_cVIp C (As := [.int xv2]) (rest := [.ref (G.2.2 (1052)), .int v11]) ml_X8_214 (kX8_t l G SB S xt2 h) (ocr SB) (T := TX8) (N := 60) rfl (by decide) ⟨(Nat.le_of_ble_eq_true rfl), (Nat.le_of_ble_eq_true rfl)⟩ hl.1 rfl rfl (Nat.le_of_ble_eq_true rfl) hw hS dX8_isSamePackage_39 (fun v13 x_13 H locs t13 h hw hS => ?_)
    obtain ⟨b14, h⟩ := h
    refine y_iald C hw (acr_19 SB) t13 b14 dX8_isSamePackage_42 (fun v14 t14 => ?_)
    refine y_icmp_ne C t11 t14 dX8_isSamePackage_43 (tgt := 50) (by decide) (fun c15 => ?_) (fun c15 => ?_)
    · have h := h.1 c15
      refine y_iconst C dX8_isSamePackage_50 ⟨by decide, by decide⟩ (fun v16 t16 => ?_)
      exact y_zret C hw hS t16 (Or.inl rfl) ⟨h, rfl⟩ dX8_isSamePackage_51
    · have h := h.2 c15
      refine y_iconst C dX8_isSamePackage_46 ⟨by decide, by decide⟩ (fun v17 t17 => ?_)
      refine lv_goto (tgt := 51) C.1.1 C.1.2.1 dX8_isSamePackage_47 (by decide) ?_
      exact y_zret C hw hS t17 (Or.inr rfl) ⟨h, rfl⟩ dX8_isSamePackage_51
theorem kX8_isSamePackage (l : Launch) (G : GG) (SB S : St) {xv1 : Int32} {x1 : Int} (xt1 : xv1.toInt = x1) {xv2 : Int32} {x2 : Int} (xt2 : xv2.toInt = x2) {k : Int → Prop} (h : wX8_isSamePackage S x1 x2 k) : CnI l yX8_isSamePackage cX8_isSamePackage 3 (some .boolean) 1 21 G (injR SB) [.ref (G.2.2 1042), .int xv1, .int xv2] S (fun r u => k r ∧ u = S) :=
  cn_body (by decide +kernel) (Nat.le_of_ble_eq_true rfl) (fun p e s m args below meth c ls C hw hl => uX8_isSamePackage_0 C hw va_S.rf xt1 xt2 (lv_sub hl [0, 1, 2] rfl) h)
set_option maxHeartbeats 4000000 in
set_option maxRecDepth 10000 in
theorem uX8_seenVar_0 {p : Program} {l : Launch} {e : Env} {s : State} {m : MethodId} {args : Array Value} {below : List Frame} {meth : Method} {c : Code} {G : GG} {SB : St} (C : Cx p s m args meth c G RX8 cX8_seenVar 4 (some .int)) {S : St} {H : Heap} {locs : List Loc} {ls : Array Slot}  {k : Int → Prop} (hw : Wd G ((injR SB) S) H) (hS : va_S (AG G) s.heap H locs) {xv1 : Int32} {x1 : Int} (xt1 : xv1.toInt = x1) {xv2 : Int32} {x2 : Int} (xt2 : xv2.toInt = x2) {xv3 : Int32} {x3 : Int} (xt3 : xv3.toInt = x3) (hl : lv_has ls 4 [(0, .ref (G.2.2 1042)), (1, .int xv1), (2, .int xv2), (3, .int xv3)])  (h : wX8_seenVar_0 S x1 x2 x3 k) : W p l e (rmF 1 21) s m args below meth c H locs 0 0 (MQ below (QcI G (injR SB) (fun r u => k r ∧ u = S)) args s 0 0 (AG G)) (F0 m 0 ls []) := by
  refine lv_iload_n C.1.1 C.1.2.1 dX8_seenVar_0 rfl (lv_at hl 1 rfl) ?_
  refine lv_iload_n C.1.1 C.1.2.1 dX8_seenVar_1 rfl (lv_at hl 2 rfl) ?_
  refine y_icmp_ne C xt1 xt2 dX8_seenVar_2 (tgt := 12) (by decide) (fun c1 => ?_) (fun c1 => ?_)
  · have h := h.1 c1
    refine lv_aload_n C.1.1 C.1.2.1 dX8_seenVar_12 rfl (lv_at hl 0 rfl) ?_
    refine y_getA C fl_X8_107 hw (ocr SB) rfl (o := 23) rfl dX8_seenVar_13 ?_
    refine y_iconst C dX8_seenVar_16 ⟨by decide, by decide⟩ (fun v3 t3 => ?_)
    refine y_bipush C dX8_seenVar_17 ⟨by decide, by decide⟩ (fun v4 t4 => ?_)
    refine lv_aload_n C.1.1 C.1.2.1 dX8_seenVar_19 rfl (lv_at hl 0 rfl) ?_
    refine lv_iload_n C.1.1 C.1.2.1 dX8_seenVar_20 rfl (lv_at hl 1 rfl) ?_
    refine y_cVIp C (As := [.int xv1]) (rest := [.int v4, .int v3, .ref (G.2.2 (1065))]) ml_X8_214 (kX8_t l G SB S xt1 h) (ocr SB) (T := TX8) (N := 60) rfl (by decide) ⟨(Nat.le_of_ble_eq_true rfl), (Nat.le_of_ble_eq_true rfl)⟩ hl.1 rfl rfl (Nat.le_of_ble_eq_true rfl) hw hS dX8_seenVar_21 (fun v5 x_5 H locs t5 h hw hS => ?_)
    refine y_imul C t4 t5 dX8_seenVar_24 (fun v6 t6 => ?_)
    refine lv_iload_n C.1.1 C.1.2.1 dX8_seenVar_25 rfl (lv_at hl 2 rfl) ?_
    refine y_iadd C t6 xt2 dX8_seenVar_26 (fun v7 t7 => ?_)
    refine y_imul C t3 t7 dX8_seenVar_27 (fun v8 t8 => ?_)
    refine lv_iload_n C.1.1 C.1.2.1 dX8_seenVar_28 rfl (lv_at hl 3 rfl) ?_
    refine y_iadd C t8 xt3 dX8_seenVar_29 (fun v9 t9 => ?_)
    obtain ⟨b10, h⟩ := h
    refine y_iald C hw (acr_32 SB) t9 b10 dX8_seenVar_30 (fun v10 t10 => ?_)
    exact y_iret C hw hS t10 ⟨h, rfl⟩ dX8_seenVar_31
  · have h := h.2 c1
    refine y_bipush C dX8_seenVar_5 ⟨by decide, by decide⟩ (fun v11 t11 => ?_)
    refine lv_iload_n C.1.1 C.1.2.1 dX8_seenVar_7 rfl (lv_at hl 3 rfl) ?_
    refine y_iadd C t11 xt3 dX8_seenVar_8 (fun v12 t12 => ?_)
    refine lv_goto (tgt := 31) C.1.1 C.1.2.1 dX8_seenVar_9 (by decide) ?_
    exact y_iret C hw hS t12 ⟨h, rfl⟩ dX8_seenVar_31
theorem kX8_seenVar (l : Launch) (G : GG) (SB S : St) {xv1 : Int32} {x1 : Int} (xt1 : xv1.toInt = x1) {xv2 : Int32} {x2 : Int} (xt2 : xv2.toInt = x2) {xv3 : Int32} {x3 : Int} (xt3 : xv3.toInt = x3) {k : Int → Prop} (h : wX8_seenVar S x1 x2 x3 k) : CnI l yX8_seenVar cX8_seenVar 4 (some .int) 1 21 G (injR SB) [.ref (G.2.2 1042), .int xv1, .int xv2, .int xv3] S (fun r u => k r ∧ u = S) :=
  cn_body (by decide +kernel) (Nat.le_of_ble_eq_true rfl) (fun p e s m args below meth c ls C hw hl => uX8_seenVar_0 C hw va_S.rf xt1 xt2 xt3 (lv_sub hl [0, 1, 2, 3] rfl) h)
set_option maxHeartbeats 4000000 in
set_option maxRecDepth 10000 in
theorem uX8_kindSeen_0 {p : Program} {l : Launch} {e : Env} {s : State} {m : MethodId} {args : Array Value} {below : List Frame} {meth : Method} {c : Code} {G : GG} {SB : St} (C : Cx p s m args meth c G RX8 cX8_kindSeen 5 (some .int)) {S : St} {H : Heap} {locs : List Loc} {ls : Array Slot}  {k : Int → Prop} (hw : Wd G ((injR SB) S) H) (hS : va_S (AG G) s.heap H locs) {xv1 : Int32} {x1 : Int} (xt1 : xv1.toInt = x1) {xv2 : Int32} {x2 : Int} (xt2 : xv2.toInt = x2) {xv3 : Int32} {x3 : Int} (xt3 : xv3.toInt = x3) (hl : lv_has ls 5 [(0, .ref (G.2.2 1042)), (1, .int xv1), (2, .int xv2), (3, .int xv3)])  (h : wX8_kindSeen_0 S x1 x2 x3 k) : W p l e (rmF 2 44) s m args below meth c H locs 0 0 (MQ below (QcI G (injR SB) (fun r u => k r ∧ u = S)) args s 0 0 (AG G)) (F0 m 0 ls []) := by
  refine lv_aload_n C.1.1 C.1.2.1 dX8_kindSeen_0 rfl (lv_at hl 0 rfl) ?_
  refine y_getA C fl_X8_137 hw (ocr SB) rfl (o := 33) rfl dX8_kindSeen_1 ?_
  refine y_iconst C dX8_kindSeen_4 ⟨by decide, by decide⟩ (fun v2 t2 => ?_)
  refine lv_aload_n C.1.1 C.1.2.1 dX8_kindSeen_5 rfl (lv_at hl 0 rfl) ?_
  refine lv_iload_n C.1.1 C.1.2.1 dX8_kindSeen_6 rfl (lv_at hl 2 rfl) ?_
  refine y_cVIp C (As := [.int xv2]) (rest := [.int v2, .ref (G.2.2 (1075))]) ml_X8_218 (kX8_m l G SB S xt2 h) (ocr SB) (T := TX8) (N := 60) rfl (by decide) ⟨(Nat.le_of_ble_eq_true rfl), (Nat.le_of_ble_eq_true rfl)⟩ hl.1 rfl rfl (Nat.le_of_ble_eq_true rfl) hw hS dX8_kindSeen_7 (fun v3 x_3 H locs t3 h hw hS => ?_)
  refine y_imul C t2 t3 dX8_kindSeen_10 (fun v4 t4 => ?_)
  refine lv_iload_n C.1.1 C.1.2.1 dX8_kindSeen_11 rfl (lv_at hl 3 rfl) ?_
  refine y_iadd C t4 xt3 dX8_kindSeen_12 (fun v5 t5 => ?_)
  obtain ⟨b6, h⟩ := h
  refine y_iald C hw (acr_42 SB) t5 b6 dX8_kindSeen_13 (fun v6 t6 => ?_)
  obtain ⟨x_7, e7⟩ : ∃ z : Int, z = S 33 (w32 (w32 (3 * x_3) + x3)) := ⟨_, rfl⟩
  have h := h x_7 e7
  have t7 := t6.trans e7.symm
  refine lv_istore (lv' := [(4, .int v6), (0, .ref (G.2.2 1042)), (1, .int xv1), (2, .int xv2), (3, .int xv3)]) C.1.1 C.1.2.1 dX8_kindSeen_14 hl (by decide) rfl (fun ls hl => ?_)
  refine lv_iload C.1.1 C.1.2.1 dX8_kindSeen_16 (lv_at hl 0 rfl) ?_
  refine y_bipush C dX8_kindSeen_18 ⟨by decide, by decide⟩ (fun v8 t8 => ?_)
  refine y_icmp_lt C t7 t8 dX8_kindSeen_20 (tgt := 46) (by decide) (fun c9 => ?_) (fun c9 => ?_)
  · have h := h.1 c9
    refine lv_iload C.1.1 C.1.2.1 dX8_kindSeen_46 (lv_at hl 0 rfl) ?_
    exact y_iret C hw hS t7 ⟨h, rfl⟩ dX8_kindSeen_48
  · have h := h.2 c9
    refine lv_aload_n C.1.1 C.1.2.1 dX8_kindSeen_23 rfl (lv_at hl 1 rfl) ?_
    refine lv_iload_n C.1.1 C.1.2.1 dX8_kindSeen_24 rfl (lv_at hl 2 rfl) ?_
    refine lv_aload_n C.1.1 C.1.2.1 dX8_kindSeen_25 rfl (lv_at hl 1 rfl) ?_
    refine y_getA C fl_X8_122 hw (ocr SB) rfl (o := 28) rfl dX8_kindSeen_26 ?_
    refine lv_aload_n C.1.1 C.1.2.1 dX8_kindSeen_29 rfl (lv_at hl 1 rfl) ?_
    refine lv_iload_n C.1.1 C.1.2.1 dX8_kindSeen_30 rfl (lv_at hl 3 rfl) ?_
    refine y_cVIp C (As := [.int xv2]) (rest := [.ref (G.2.2 (1070)), .int xv1, .ref (G.2.2 1042)]) ml_X8_218 (kX8_m l G SB S xt2 h) (ocr SB) (T := TX8) (N := 60) rfl (by decide) ⟨(Nat.le_of_ble_eq_true rfl), (Nat.le_of_ble_eq_true rfl)⟩ hl.1 rfl rfl (Nat.le_of_ble_eq_true rfl) hw hS dX8_kindSeen_31 (fun v11 x_11 H locs t11 h hw hS => ?_)
    obtain ⟨b12, h⟩ := h
    refine y_iald C hw (acr_37 SB) t11 b12 dX8_kindSeen_34 (fun v12 t12 => ?_)
    refine lv_iload C.1.1 C.1.2.1 dX8_kindSeen_35 (lv_at hl 0 rfl) ?_
    refine y_bipush C dX8_kindSeen_37 ⟨by decide, by decide⟩ (fun v13 t13 => ?_)
    refine y_isub C t7 t13 dX8_kindSeen_39 (fun v14 t14 => ?_)
    refine y_cVIp C (As := [.int xv1, .int v12, .int v14]) (rest := []) ml_X8_221 (kX8_seenVar l G SB S xt1 t12 t14 h) (ocr SB) (T := TX8) (N := 60) rfl (by decide) ⟨(Nat.le_of_ble_eq_true rfl), (Nat.le_of_ble_eq_true rfl)⟩ hl.1 rfl rfl (Nat.le_of_ble_eq_true rfl) hw hS dX8_kindSeen_40 (fun v15 x_15 H locs t15 h hw hS => ?_)
    refine lv_goto (tgt := 48) C.1.1 C.1.2.1 dX8_kindSeen_43 (by decide) ?_
    exact y_iret C hw hS t15 ⟨h, rfl⟩ dX8_kindSeen_48
theorem kX8_kindSeen (l : Launch) (G : GG) (SB S : St) {xv1 : Int32} {x1 : Int} (xt1 : xv1.toInt = x1) {xv2 : Int32} {x2 : Int} (xt2 : xv2.toInt = x2) {xv3 : Int32} {x3 : Int} (xt3 : xv3.toInt = x3) {k : Int → Prop} (h : wX8_kindSeen S x1 x2 x3 k) : CnI l yX8_kindSeen cX8_kindSeen 5 (some .int) 2 44 G (injR SB) [.ref (G.2.2 1042), .int xv1, .int xv2, .int xv3] S (fun r u => k r ∧ u = S) :=
  cn_body (by decide +kernel) (Nat.le_of_ble_eq_true rfl) (fun p e s m args below meth c ls C hw hl => uX8_kindSeen_0 C hw va_S.rf xt1 xt2 xt3 (lv_sub hl [0, 1, 2, 3] rfl) h)
set_option maxHeartbeats 4000000 in
set_option maxRecDepth 10000 in
theorem uX8_isLike_55_b {p : Program} {l : Launch} {e : Env} {s : State} {m : MethodId} {args : Array Value} {below : List Frame} {meth : Method} {c : Code} {G : GG} {SB : St} (C : Cx p s m args meth c G RX8 cX8_isLike 6 (some .boolean)) {S : St} {H : Heap} {locs : List Loc} {ls : Array Slot}  {P55 : Int → Int → Prop} {k : Int → Prop} (hw : Wd G ((injR SB) S) H) (hS : va_S (AG G) s.heap H locs) {xv1 : Int32} {x1 : Int} (xt1 : xv1.toInt = x1) {xv2 : Int32} {x2 : Int} (xt2 : xv2.toInt = x2) {xv3 : Int32} {x3 : Int} (xt3 : xv3.toInt = x3) {xv4 : Int32} {x4 : Int} (xt4 : xv4.toInt = x4) {xv5 : Int32} {x5 : Int} (xt5 : xv5.toInt = x5) (hl : lv_has ls 6 [(0, .ref (G.2.2 1042)), (1, .int xv1), (2, .int xv2), (3, .int xv3), (4, .int xv4), (5, .int xv5)])  (hP55 : ∀ {H : Heap} {locs : List Loc} {ls : Array Slot} {yv4 : Int32} {y4 : Int} {yv5 : Int32} {y5 : Int}, yv4.toInt = y4 → yv5.toInt = y5 → Wd G ((injR SB) S) H → va_S (AG G) s.heap H locs → lv_has ls 6 [(0, .ref (G.2.2 1042)), (1, .int xv1), (2, .int xv2), (3, .int xv3), (4, .int yv4), (5, .int yv5)] → P55 y4 y5 → W p l e (rmF 3 68) s m args below meth c H locs 0 0 (MQ below (QcI G (injR SB) (fun r u => k r ∧ u = S)) args s 0 0 (AG G)) (F0 m 55 ls [])) (h : wX8_isLike_55_b S x1 x2 x3 x4 x5 P55 k) : W p l e (rmF 3 68) s m args below meth c H locs 0 0 (MQ below (QcI G (injR SB) (fun r u => k r ∧ u = S)) args s 0 0 (AG G)) (F0 m 55 ls []) := by
  refine lv_iload C.1.1 C.1.2.1 dX8_isLike_55 (lv_at hl 5 rfl) ?_
  refine lv_aload_n C.1.1 C.1.2.1 dX8_isLike_57 rfl (lv_at hl 0 rfl) ?_
  refine y_getA C fl_X8_134 hw (ocr SB) rfl (o := 32) rfl dX8_isLike_58 ?_
  refine lv_aload_n C.1.1 C.1.2.1 dX8_isLike_61 rfl (lv_at hl 0 rfl) ?_
  refine lv_iload_n C.1.1 C.1.2.1 dX8_isLike_62 rfl (lv_at hl 2 rfl) ?_
  refine y_cVIp C (As := [.int xv2]) (rest := [.ref (G.2.2 (1074)), .int xv5]) ml_X8_218 (kX8_m l G SB S xt2 h) (ocr SB) (T := TX8) (N := 60) rfl (by decide) ⟨(Nat.le_of_ble_eq_true rfl), (Nat.le_of_ble_eq_true rfl)⟩ hl.1 rfl rfl (Nat.le_of_ble_eq_true rfl) hw hS dX8_isLike_63 (fun v2 x_2 H locs t2 h hw hS => ?_)
  obtain ⟨b3, h⟩ := h
  refine y_iald C hw (acr_41 SB) t2 b3 dX8_isLike_66 (fun v3 t3 => ?_)
  refine y_icmp_ge C xt5 t3 dX8_isLike_67 (tgt := 107) (by decide) (fun c4 => ?_) (fun c4 => ?_)
  · have h := h.1 c4
    refine lv_iload C.1.1 C.1.2.1 dX8_isLike_107 (lv_at hl 4 rfl) ?_
    obtain ⟨z, h⟩ := h
    exact y_zret C hw hS xt4 z ⟨h, rfl⟩ dX8_isLike_109
  · have h := h.2 c4
    refine lv_iload C.1.1 C.1.2.1 dX8_isLike_70 (lv_at hl 4 rfl) ?_
    refine y_if_eq C xt4 dX8_isLike_72 (tgt := 98) (by decide) (fun c5 => ?_) (fun c5 => ?_)
    · have h := h.1 c5
      refine y_iconst C dX8_isLike_98 ⟨by decide, by decide⟩ (fun v6 t6 => ?_)
      refine lv_istore (lv' := [(4, .int v6), (0, .ref (G.2.2 1042)), (1, .int xv1), (2, .int xv2), (3, .int xv3), (5, .int xv5)]) C.1.1 C.1.2.1 dX8_isLike_99 hl (by decide) rfl (fun ls hl => ?_)
      obtain ⟨x_7, e7⟩ : ∃ z : Int, z = w32 (x5 + 1) := ⟨_, rfl⟩
      have h := h x_7 e7
      obtain ⟨v7, t7, g7⟩ : ∃ z : Int32, z.toInt = x_7 ∧ xv5 + Int32.ofInt 1 = z := ⟨_, (ti_inc xt5 ⟨by decide, by decide⟩).trans e7.symm, rfl⟩
      refine lv_iinc (v := v7) (lv' := [(5, .int v7), (4, .int v6), (0, .ref (G.2.2 1042)), (1, .int xv1), (2, .int xv2), (3, .int xv3)]) C.1.1 C.1.2.1 dX8_isLike_101 hl (k := 5) rfl g7 (by decide) rfl (fun ls hl => ?_)
      refine lv_goto (tgt := 55) C.1.1 C.1.2.1 dX8_isLike_104 (by decide) ?_
      exact hP55 t6 t7 hw hS (lv_sub hl [2, 3, 4, 5, 1, 0] rfl) h
    · have h := h.2 c5
      refine lv_aload_n C.1.1 C.1.2.1 dX8_isLike_75 rfl (lv_at hl 0 rfl) ?_
      refine lv_iload_n C.1.1 C.1.2.1 dX8_isLike_76 rfl (lv_at hl 1 rfl) ?_
      refine lv_iload_n C.1.1 C.1.2.1 dX8_isLike_77 rfl (lv_at hl 2 rfl) ?_
      refine lv_iload C.1.1 C.1.2.1 dX8_isLike_78 (lv_at hl 5 rfl) ?_
      refine y_cVIp C (As := [.int xv1, .int xv2, .int xv5]) (rest := []) ml_X8_229 (kX8_kindSeen l G SB S xt1 xt2 xt5 h) (ocr SB) (T := TX8) (N := 60) rfl (by decide) ⟨(Nat.le_of_ble_eq_true rfl), (Nat.le_of_ble_eq_true rfl)⟩ hl.1 rfl rfl (Nat.le_of_ble_eq_true rfl) hw hS dX8_isLike_80 (fun v8 x_8 H locs t8 h hw hS => ?_)
      refine lv_aload_n C.1.1 C.1.2.1 dX8_isLike_83 rfl (lv_at hl 0 rfl) ?_
      refine lv_iload_n C.1.1 C.1.2.1 dX8_isLike_84 rfl (lv_at hl 1 rfl) ?_
      refine lv_iload_n C.1.1 C.1.2.1 dX8_isLike_85 rfl (lv_at hl 3 rfl) ?_
      refine lv_iload C.1.1 C.1.2.1 dX8_isLike_86 (lv_at hl 5 rfl) ?_
      refine y_cVIp C (As := [.int xv1, .int xv3, .int xv5]) (rest := [.int v8]) ml_X8_229 (kX8_kindSeen l G SB S xt1 xt3 xt5 h) (ocr SB) (T := TX8) (N := 60) rfl (by decide) ⟨(Nat.le_of_ble_eq_true rfl), (Nat.le_of_ble_eq_true rfl)⟩ hl.1 rfl rfl (Nat.le_of_ble_eq_true rfl) hw hS dX8_isLike_88 (fun v9 x_9 H locs t9 h hw hS => ?_)
      refine y_icmp_ne C t8 t9 dX8_isLike_91 (tgt := 98) (by decide) (fun c10 => ?_) (fun c10 => ?_)
      · have h := h.1 c10
        refine y_iconst C dX8_isLike_98 ⟨by decide, by decide⟩ (fun v11 t11 => ?_)
        refine lv_istore (lv' := [(4, .int v11), (0, .ref (G.2.2 1042)), (1, .int xv1), (2, .int xv2), (3, .int xv3), (5, .int xv5)]) C.1.1 C.1.2.1 dX8_isLike_99 hl (by decide) rfl (fun ls hl => ?_)
        obtain ⟨x_12, e12⟩ : ∃ z : Int, z = w32 (x5 + 1) := ⟨_, rfl⟩
        have h := h x_12 e12
        obtain ⟨v12, t12, g12⟩ : ∃ z : Int32, z.toInt = x_12 ∧ xv5 + Int32.ofInt 1 = z := ⟨_, (ti_inc xt5 ⟨by decide, by decide⟩).trans e12.symm, rfl⟩
        refine lv_iinc (v := v12) (lv' := [(5, .int v12), (4, .int v11), (0, .ref (G.2.2 1042)), (1, .int xv1), (2, .int xv2), (3, .int xv3)]) C.1.1 C.1.2.1 dX8_isLike_101 hl (k := 5) rfl g12 (by decide) rfl (fun ls hl => ?_)
        refine lv_goto (tgt := 55) C.1.1 C.1.2.1 dX8_isLike_104 (by decide) ?_
        exact hP55 t11 t12 hw hS (lv_sub hl [2, 3, 4, 5, 1, 0] rfl) h
      · have h := h.2 c10
        refine y_iconst C dX8_isLike_94 ⟨by decide, by decide⟩ (fun v13 t13 => ?_)
        refine lv_goto (tgt := 99) C.1.1 C.1.2.1 dX8_isLike_95 (by decide) ?_
        refine lv_istore (lv' := [(4, .int v13), (0, .ref (G.2.2 1042)), (1, .int xv1), (2, .int xv2), (3, .int xv3), (5, .int xv5)]) C.1.1 C.1.2.1 dX8_isLike_99 hl (by decide) rfl (fun ls hl => ?_)
        obtain ⟨x_14, e14⟩ : ∃ z : Int, z = w32 (x5 + 1) := ⟨_, rfl⟩
        have h := h x_14 e14
        obtain ⟨v14, t14, g14⟩ : ∃ z : Int32, z.toInt = x_14 ∧ xv5 + Int32.ofInt 1 = z := ⟨_, (ti_inc xt5 ⟨by decide, by decide⟩).trans e14.symm, rfl⟩
        refine lv_iinc (v := v14) (lv' := [(5, .int v14), (4, .int v13), (0, .ref (G.2.2 1042)), (1, .int xv1), (2, .int xv2), (3, .int xv3)]) C.1.1 C.1.2.1 dX8_isLike_101 hl (k := 5) rfl g14 (by decide) rfl (fun ls hl => ?_)
        refine lv_goto (tgt := 55) C.1.1 C.1.2.1 dX8_isLike_104 (by decide) ?_
        exact hP55 t13 t14 hw hS (lv_sub hl [2, 3, 4, 5, 1, 0] rfl) h
set_option maxHeartbeats 4000000 in
set_option maxRecDepth 10000 in
theorem uX8_isLike_55 {p : Program} {l : Launch} {e : Env} {s : State} {m : MethodId} {args : Array Value} {below : List Frame} {meth : Method} {c : Code} {G : GG} {SB : St} (C : Cx p s m args meth c G RX8 cX8_isLike 6 (some .boolean)) {S : St} {H : Heap} {locs : List Loc} {ls : Array Slot}  {k : Int → Prop} (hw : Wd G ((injR SB) S) H) (hS : va_S (AG G) s.heap H locs) {xv1 : Int32} {x1 : Int} (xt1 : xv1.toInt = x1) {xv2 : Int32} {x2 : Int} (xt2 : xv2.toInt = x2) {xv3 : Int32} {x3 : Int} (xt3 : xv3.toInt = x3) {xv4 : Int32} {x4 : Int} (xt4 : xv4.toInt = x4) {xv5 : Int32} {x5 : Int} (xt5 : xv5.toInt = x5) (hl : lv_has ls 6 [(0, .ref (G.2.2 1042)), (1, .int xv1), (2, .int xv2), (3, .int xv3), (4, .int xv4), (5, .int xv5)])  (h : wX8_isLike_55 S x1 x2 x3 x4 x5 k) : W p l e (rmF 3 68) s m args below meth c H locs 0 0 (MQ below (QcI G (injR SB) (fun r u => k r ∧ u = S)) args s 0 0 (AG G)) (F0 m 55 ls []) := by
  have key : ∀ (n : Nat) {H : Heap} {locs : List Loc} {ls : Array Slot} {xv4 : Int32} {x4 : Int} {xv5 : Int32} {x5 : Int}, xv4.toInt = x4 → xv5.toInt = x5 → Wd G ((injR SB) S) H → va_S (AG G) s.heap H locs → lv_has ls 6 [(0, .ref (G.2.2 1042)), (1, .int xv1), (2, .int xv2), (3, .int xv3), (4, .int xv4), (5, .int xv5)] → itP (fun (P : Int × Int → Prop) (a : Int × Int) => wX8_isLike_55_b S x1 x2 x3 a.1 a.2 (fun b0 b1 => P (b0, b1)) k) n (x4, x5) → W p l e (rmF 3 68) s m args below meth c H locs 0 0 (MQ below (QcI G (injR SB) (fun r u => k r ∧ u = S)) args s 0 0 (AG G)) (F0 m 55 ls []) := by
    intro n
    induction n with
    | zero => intro H locs ls xv4 x4 xv5 x5 xt4 xt5 hw hS hl h; exact h.elim
    | succ n ih =>
      intro H locs ls xv4 x4 xv5 x5 xt4 xt5 hw hS hl h
      exact uX8_isLike_55_b C hw hS xt1 xt2 xt3 xt4 xt5 hl  (P55 := fun b0 b1 => itP _ n (b0, b1)) (fun q0 q1 hw hS hl h => ih q0 q1 hw hS hl h) h
  obtain ⟨n, hn⟩ := h
  exact key n xt4 xt5 hw hS hl hn
set_option maxHeartbeats 4000000 in
set_option maxRecDepth 10000 in
theorem uX8_isLike_0 {p : Program} {l : Launch} {e : Env} {s : State} {m : MethodId} {args : Array Value} {below : List Frame} {meth : Method} {c : Code} {G : GG} {SB : St} (C : Cx p s m args meth c G RX8 cX8_isLike 6 (some .boolean)) {S : St} {H : Heap} {locs : List Loc} {ls : Array Slot}  {k : Int → Prop} (hw : Wd G ((injR SB) S) H) (hS : va_S (AG G) s.heap H locs) {xv1 : Int32} {x1 : Int} (xt1 : xv1.toInt = x1) {xv2 : Int32} {x2 : Int} (xt2 : xv2.toInt = x2) {xv3 : Int32} {x3 : Int} (xt3 : xv3.toInt = x3) (hl : lv_has ls 6 [(0, .ref (G.2.2 1042)), (1, .int xv1), (2, .int xv2), (3, .int xv3)])  (h : wX8_isLike_0 S x1 x2 x3 k) : W p l e (rmF 3 68) s m args below meth c H locs 0 0 (MQ below (QcI G (injR SB) (fun r u => k r ∧ u = S)) args s 0 0 (AG G)) (F0 m 0 ls []) := by
  refine lv_aload_n C.1.1 C.1.2.1 dX8_isLike_0 rfl (lv_at hl 0 rfl) ?_
  refine y_getA C fl_X8_125 hw (ocr SB) rfl (o := 29) rfl dX8_isLike_1 ?_
  refine lv_aload_n C.1.1 C.1.2.1 dX8_isLike_4 rfl (lv_at hl 0 rfl) ?_
  refine lv_iload_n C.1.1 C.1.2.1 dX8_isLike_5 rfl (lv_at hl 2 rfl) ?_
  refine y_cVIp C (As := [.int xv2]) (rest := [.ref (G.2.2 (1071))]) ml_X8_218 (kX8_m l G SB S xt2 h) (ocr SB) (T := TX8) (N := 60) rfl (by decide) ⟨(Nat.le_of_ble_eq_true rfl), (Nat.le_of_ble_eq_true rfl)⟩ hl.1 rfl rfl (Nat.le_of_ble_eq_true rfl) hw hS dX8_isLike_6 (fun v2 x_2 H locs t2 h hw hS => ?_)
  obtain ⟨b3, h⟩ := h
  refine y_lald C hw (acr_38 SB) t2 b3 dX8_isLike_9 (fun v3 t3 => ?_)
  refine lv_aload_n C.1.1 C.1.2.1 dX8_isLike_10 rfl (lv_at hl 0 rfl) ?_
  refine y_getA C fl_X8_125 hw (ocr SB) rfl (o := 29) rfl dX8_isLike_11 ?_
  refine lv_aload_n C.1.1 C.1.2.1 dX8_isLike_14 rfl (lv_at hl 0 rfl) ?_
  refine lv_iload_n C.1.1 C.1.2.1 dX8_isLike_15 rfl (lv_at hl 3 rfl) ?_
  refine y_cVIp C (As := [.int xv3]) (rest := [.ref (G.2.2 (1071)), .long v3]) ml_X8_218 (kX8_m l G SB S xt3 h) (ocr SB) (T := TX8) (N := 60) rfl (by decide) ⟨(Nat.le_of_ble_eq_true rfl), (Nat.le_of_ble_eq_true rfl)⟩ hl.1 rfl rfl (Nat.le_of_ble_eq_true rfl) hw hS dX8_isLike_16 (fun v5 x_5 H locs t5 h hw hS => ?_)
  obtain ⟨b6, h⟩ := h
  refine y_lald C hw (acr_38 SB) t5 b6 dX8_isLike_19 (fun v6 t6 => ?_)
  refine y_lcmp C t3 t6 dX8_isLike_20 (fun v7 t7 => ?_)
  refine y_if_ne C t7 dX8_isLike_21 (tgt := 47) (by decide) (fun c8 => ?_) (fun c8 => ?_)
  · have c8 := cmp_ne.mp c8
    have h := h.1 c8
    refine y_iconst C dX8_isLike_47 ⟨by decide, by decide⟩ (fun v9 t9 => ?_)
    exact y_zret C hw hS t9 (Or.inl rfl) ⟨h, rfl⟩ dX8_isLike_48
  · have c8 := cmp_eq.mp c8
    have h := h.2 c8
    refine lv_aload_n C.1.1 C.1.2.1 dX8_isLike_24 rfl (lv_at hl 0 rfl) ?_
    refine y_getA C fl_X8_134 hw (ocr SB) rfl (o := 32) rfl dX8_isLike_25 ?_
    refine lv_aload_n C.1.1 C.1.2.1 dX8_isLike_28 rfl (lv_at hl 0 rfl) ?_
    refine lv_iload_n C.1.1 C.1.2.1 dX8_isLike_29 rfl (lv_at hl 2 rfl) ?_
    refine y_cVIp C (As := [.int xv2]) (rest := [.ref (G.2.2 (1074))]) ml_X8_218 (kX8_m l G SB S xt2 h) (ocr SB) (T := TX8) (N := 60) rfl (by decide) ⟨(Nat.le_of_ble_eq_true rfl), (Nat.le_of_ble_eq_true rfl)⟩ hl.1 rfl rfl (Nat.le_of_ble_eq_true rfl) hw hS dX8_isLike_30 (fun v11 x_11 H locs t11 h hw hS => ?_)
    obtain ⟨b12, h⟩ := h
    refine y_iald C hw (acr_41 SB) t11 b12 dX8_isLike_33 (fun v12 t12 => ?_)
    refine lv_aload_n C.1.1 C.1.2.1 dX8_isLike_34 rfl (lv_at hl 0 rfl) ?_
    refine y_getA C fl_X8_134 hw (ocr SB) rfl (o := 32) rfl dX8_isLike_35 ?_
    refine lv_aload_n C.1.1 C.1.2.1 dX8_isLike_38 rfl (lv_at hl 0 rfl) ?_
    refine lv_iload_n C.1.1 C.1.2.1 dX8_isLike_39 rfl (lv_at hl 3 rfl) ?_
    refine y_cVIp C (As := [.int xv3]) (rest := [.ref (G.2.2 (1074)), .int v12]) ml_X8_218 (kX8_m l G SB S xt3 h) (ocr SB) (T := TX8) (N := 60) rfl (by decide) ⟨(Nat.le_of_ble_eq_true rfl), (Nat.le_of_ble_eq_true rfl)⟩ hl.1 rfl rfl (Nat.le_of_ble_eq_true rfl) hw hS dX8_isLike_40 (fun v14 x_14 H locs t14 h hw hS => ?_)
    obtain ⟨b15, h⟩ := h
    refine y_iald C hw (acr_41 SB) t14 b15 dX8_isLike_43 (fun v15 t15 => ?_)
    refine y_icmp_eq C t12 t15 dX8_isLike_44 (tgt := 49) (by decide) (fun c16 => ?_) (fun c16 => ?_)
    · have h := h.1 c16
      refine y_iconst C dX8_isLike_49 ⟨by decide, by decide⟩ (fun v17 t17 => ?_)
      refine lv_istore (lv' := [(4, .int v17), (0, .ref (G.2.2 1042)), (1, .int xv1), (2, .int xv2), (3, .int xv3)]) C.1.1 C.1.2.1 dX8_isLike_50 hl (by decide) rfl (fun ls hl => ?_)
      refine y_iconst C dX8_isLike_52 ⟨by decide, by decide⟩ (fun v18 t18 => ?_)
      refine lv_istore (lv' := [(5, .int v18), (4, .int v17), (0, .ref (G.2.2 1042)), (1, .int xv1), (2, .int xv2), (3, .int xv3)]) C.1.1 C.1.2.1 dX8_isLike_53 hl (by decide) rfl (fun ls hl => ?_)
      exact uX8_isLike_55 C hw hS xt1 xt2 xt3 t17 t18 (lv_sub hl [2, 3, 4, 5, 1, 0] rfl)  h
    · have h := h.2 c16
      refine y_iconst C dX8_isLike_47 ⟨by decide, by decide⟩ (fun v19 t19 => ?_)
      exact y_zret C hw hS t19 (Or.inl rfl) ⟨h, rfl⟩ dX8_isLike_48
theorem kX8_isLike (l : Launch) (G : GG) (SB S : St) {xv1 : Int32} {x1 : Int} (xt1 : xv1.toInt = x1) {xv2 : Int32} {x2 : Int} (xt2 : xv2.toInt = x2) {xv3 : Int32} {x3 : Int} (xt3 : xv3.toInt = x3) {k : Int → Prop} (h : wX8_isLike S x1 x2 x3 k) : CnI l yX8_isLike cX8_isLike 6 (some .boolean) 3 68 G (injR SB) [.ref (G.2.2 1042), .int xv1, .int xv2, .int xv3] S (fun r u => k r ∧ u = S) :=
  cn_body (by decide +kernel) (Nat.le_of_ble_eq_true rfl) (fun p e s m args below meth c ls C hw hl => uX8_isLike_0 C hw va_S.rf xt1 xt2 xt3 (lv_sub hl [0, 1, 2, 3] rfl) h)
set_option maxHeartbeats 4000000 in
set_option maxRecDepth 10000 in
theorem uX8_fails_0 {p : Program} {l : Launch} {e : Env} {s : State} {m : MethodId} {args : Array Value} {below : List Frame} {meth : Method} {c : Code} {G : GG} {SB : St} (C : Cx p s m args meth c G RX8 cX8_fails 3 none) {S : St} {H : Heap} {locs : List Loc} {ls : Array Slot}  {k : St → Prop} (hw : Wd G ((injR SB) S) H) (hS : va_S (AG G) s.heap H locs) {xv1 : Int32} {x1 : Int} (xt1 : xv1.toInt = x1) {xv2 : Int32} {x2 : Int} (xt2 : xv2.toInt = x2) (hl : lv_has ls 3 [(0, .ref (G.2.2 1042)), (1, .int xv1), (2, .int xv2)])  (h : wX8_fails_0 S x1 x2 k) : W p l e (rmF 0 0) s m args below meth c H locs 0 0 (MQ below (QcV G (injR SB) k) args s 0 0 (AG G)) (F0 m 0 ls []) := by
  refine lv_aload_n C.1.1 C.1.2.1 dX8_fails_0 rfl (lv_at hl 0 rfl) ?_
  refine y_getI C fl_X8_189 hw (ocr SB) rfl dX8_fails_1 (fun v1 t1 => ?_)
  refine y_if_ne C t1 dX8_fails_4 (tgt := 17) (by decide) (fun c2 => ?_) (fun c2 => ?_)
  · have h := h.1 c2
    exact y_vret C hw hS h dX8_fails_17
  · have h := h.2 c2
    refine lv_aload_n C.1.1 C.1.2.1 dX8_fails_7 rfl (lv_at hl 0 rfl) ?_
    refine lv_iload_n C.1.1 C.1.2.1 dX8_fails_8 rfl (lv_at hl 1 rfl) ?_
    obtain ⟨S_3, e3⟩ : ∃ z : St, z = up S 0 8 x1 := ⟨_, rfl⟩
    have h := h S_3 e3
    refine y_putI C fl_X8_189 fp_8_8 hw hS (ocr SB) rfl xt1 dX8_fails_9 (fun H locs hw hS => ?_)
    have hw : Wd G ((injR SB) S_3) H := by rw [e3]; exact hw
    refine lv_aload_n C.1.1 C.1.2.1 dX8_fails_12 rfl (lv_at hl 0 rfl) ?_
    refine lv_iload_n C.1.1 C.1.2.1 dX8_fails_13 rfl (lv_at hl 2 rfl) ?_
    obtain ⟨S_4, e4⟩ : ∃ z : St, z = up S_3 0 9 x2 := ⟨_, rfl⟩
    have h := h S_4 e4
    refine y_putI C fl_X8_192 fp_8_9 hw hS (ocr SB) rfl xt2 dX8_fails_14 (fun H locs hw hS => ?_)
    have hw : Wd G ((injR SB) S_4) H := by rw [e4]; exact hw
    exact y_vret C hw hS h dX8_fails_17
theorem kX8_fails (l : Launch) (G : GG) (SB S : St) {xv1 : Int32} {x1 : Int} (xt1 : xv1.toInt = x1) {xv2 : Int32} {x2 : Int} (xt2 : xv2.toInt = x2) {k : St → Prop} (h : wX8_fails S x1 x2 k) : CnV l yX8_fails cX8_fails 3 none 0 0 G (injR SB) [.ref (G.2.2 1042), .int xv1, .int xv2] S k :=
  cn_body (by decide +kernel) (Nat.le_of_ble_eq_true rfl) (fun p e s m args below meth c ls C hw hl => uX8_fails_0 C hw va_S.rf xt1 xt2 (lv_sub hl [0, 1, 2] rfl) h)
set_option maxHeartbeats 4000000 in
set_option maxRecDepth 10000 in
theorem uX8_odd_14 {p : Program} {l : Launch} {e : Env} {s : State} {m : MethodId} {args : Array Value} {below : List Frame} {meth : Method} {c : Code} {G : GG} {SB : St} (C : Cx p s m args meth c G RX8 cX8_odd 1 none) {S : St} {H : Heap} {locs : List Loc} {ls : Array Slot}  {k : St → Prop} (hw : Wd G ((injR SB) S) H) (hS : va_S (AG G) s.heap H locs) {sv1 : Int32} {s1 : Int} (st1 : sv1.toInt = s1) (hl : lv_has ls 1 [(0, .ref (G.2.2 1042))])  (h : wX8_odd_14 S s1 k) : W p l e (rmF 1 22) s m args below meth c H locs 0 0 (MQ below (QcV G (injR SB) k) args s 0 0 (AG G)) (F0 m 14 ls [.int sv1, .ref (G.2.2 1042)]) := by
  refine lv_aload_n C.1.1 C.1.2.1 dX8_odd_14 rfl (lv_at hl 0 rfl) ?_
  refine y_getI C fl_X8_172 hw (ocr SB) rfl dX8_odd_15 (fun v1 t1 => ?_)
  refine y_cVV C (As := [.int sv1, .int v1]) (rest := []) ml_X8_195 (kX8_fails l G SB S st1 t1 h) (ocr SB) (T := TX8) (N := 60) rfl (by decide) ⟨(Nat.le_of_ble_eq_true rfl), (Nat.le_of_ble_eq_true rfl)⟩ hl.1 rfl rfl (Nat.le_of_ble_eq_true rfl) hw hS dX8_odd_18 (fun S_2 H locs h hw hS => ?_)
  exact y_vret C hw hS h dX8_odd_21
set_option maxHeartbeats 4000000 in
set_option maxRecDepth 10000 in
theorem uX8_odd_0 {p : Program} {l : Launch} {e : Env} {s : State} {m : MethodId} {args : Array Value} {below : List Frame} {meth : Method} {c : Code} {G : GG} {SB : St} (C : Cx p s m args meth c G RX8 cX8_odd 1 none) {S : St} {H : Heap} {locs : List Loc} {ls : Array Slot}  {k : St → Prop} (hw : Wd G ((injR SB) S) H) (hS : va_S (AG G) s.heap H locs)  (hl : lv_has ls 1 [(0, .ref (G.2.2 1042))])  (h : wX8_odd_0 S k) : W p l e (rmF 1 22) s m args below meth c H locs 0 0 (MQ below (QcV G (injR SB) k) args s 0 0 (AG G)) (F0 m 0 ls []) := by
  refine lv_aload_n C.1.1 C.1.2.1 dX8_odd_0 rfl (lv_at hl 0 rfl) ?_
  refine lv_aload_n C.1.1 C.1.2.1 dX8_odd_1 rfl (lv_at hl 0 rfl) ?_
  refine y_getI C fl_X8_175 hw (ocr SB) rfl dX8_odd_2 (fun v1 t1 => ?_)
  refine y_iconst C dX8_odd_5 ⟨by decide, by decide⟩ (fun v2 t2 => ?_)
  refine y_icmp_ne C t1 t2 dX8_odd_6 (tgt := 13) (by decide) (fun c3 => ?_) (fun c3 => ?_)
  · have h := h.1 c3
    refine y_iconst C dX8_odd_13 ⟨by decide, by decide⟩ (fun v4 t4 => ?_)
    exact uX8_odd_14 C hw hS t4 (lv_sub hl [0] rfl)  h
  · have h := h.2 c3
    refine y_iconst C dX8_odd_9 ⟨by decide, by decide⟩ (fun v5 t5 => ?_)
    refine lv_goto (tgt := 14) C.1.1 C.1.2.1 dX8_odd_10 (by decide) ?_
    exact uX8_odd_14 C hw hS t5 (lv_sub hl [0] rfl)  h
theorem kX8_odd (l : Launch) (G : GG) (SB S : St)  {k : St → Prop} (h : wX8_odd S k) : CnV l yX8_odd cX8_odd 1 none 1 22 G (injR SB) [.ref (G.2.2 1042)] S k :=
  cn_body (by decide +kernel) (Nat.le_of_ble_eq_true rfl) (fun p e s m args below meth c ls C hw hl => uX8_odd_0 C hw va_S.rf  (lv_sub hl [0] rfl) h)
set_option maxHeartbeats 4000000 in
set_option maxRecDepth 10000 in
theorem uX8_is_0 {p : Program} {l : Launch} {e : Env} {s : State} {m : MethodId} {args : Array Value} {below : List Frame} {meth : Method} {c : Code} {G : GG} {SB : St} (C : Cx p s m args meth c G RX8 cX8_is 2 (some .boolean)) {S : St} {H : Heap} {locs : List Loc} {ls : Array Slot}  {k : Int → Prop} (hw : Wd G ((injR SB) S) H) (hS : va_S (AG G) s.heap H locs) {xv1 : Int32} {x1 : Int} (xt1 : xv1.toInt = x1) (hl : lv_has ls 2 [(0, .ref (G.2.2 1042)), (1, .int xv1)])  (h : wX8_is_0 S x1 k) : W p l e (rmF 0 0) s m args below meth c H locs 0 0 (MQ below (QcI G (injR SB) (fun r u => k r ∧ u = S)) args s 0 0 (AG G)) (F0 m 0 ls []) := by
  refine lv_aload_n C.1.1 C.1.2.1 dX8_is_0 rfl (lv_at hl 0 rfl) ?_
  refine y_getI C fl_X8_189 hw (ocr SB) rfl dX8_is_1 (fun v1 t1 => ?_)
  refine y_if_ne C t1 dX8_is_4 (tgt := 19) (by decide) (fun c2 => ?_) (fun c2 => ?_)
  · have h := h.1 c2
    refine y_iconst C dX8_is_19 ⟨by decide, by decide⟩ (fun v3 t3 => ?_)
    exact y_zret C hw hS t3 (Or.inl rfl) ⟨h, rfl⟩ dX8_is_20
  · have h := h.2 c2
    refine lv_aload_n C.1.1 C.1.2.1 dX8_is_7 rfl (lv_at hl 0 rfl) ?_
    refine y_getI C fl_X8_175 hw (ocr SB) rfl dX8_is_8 (fun v4 t4 => ?_)
    refine lv_iload_n C.1.1 C.1.2.1 dX8_is_11 rfl (lv_at hl 1 rfl) ?_
    refine y_icmp_ne C t4 xt1 dX8_is_12 (tgt := 19) (by decide) (fun c5 => ?_) (fun c5 => ?_)
    · have h := h.1 c5
      refine y_iconst C dX8_is_19 ⟨by decide, by decide⟩ (fun v6 t6 => ?_)
      exact y_zret C hw hS t6 (Or.inl rfl) ⟨h, rfl⟩ dX8_is_20
    · have h := h.2 c5
      refine y_iconst C dX8_is_15 ⟨by decide, by decide⟩ (fun v7 t7 => ?_)
      refine lv_goto (tgt := 20) C.1.1 C.1.2.1 dX8_is_16 (by decide) ?_
      exact y_zret C hw hS t7 (Or.inr rfl) ⟨h, rfl⟩ dX8_is_20
theorem kX8_is (l : Launch) (G : GG) (SB S : St) {xv1 : Int32} {x1 : Int} (xt1 : xv1.toInt = x1) {k : Int → Prop} (h : wX8_is S x1 k) : CnI l yX8_is cX8_is 2 (some .boolean) 0 0 G (injR SB) [.ref (G.2.2 1042), .int xv1] S (fun r u => k r ∧ u = S) :=
  cn_body (by decide +kernel) (Nat.le_of_ble_eq_true rfl) (fun p e s m args below meth c ls C hw hl => uX8_is_0 C hw va_S.rf xt1 (lv_sub hl [0, 1] rfl) h)
set_option maxHeartbeats 4000000 in
set_option maxRecDepth 10000 in
theorem uX8_isLetter_30 {p : Program} {l : Launch} {e : Env} {s : State} {m : MethodId} {args : Array Value} {below : List Frame} {meth : Method} {c : Code} {G : GG} {SB : St} (C : Cx p s m args meth c G RX8 cX8_isLetter 2 (some .boolean)) {S : St} {H : Heap} {locs : List Loc} {ls : Array Slot}  {k : Int → Prop} (hw : Wd G ((injR SB) S) H) (hS : va_S (AG G) s.heap H locs) {xv1 : Int32} {x1 : Int} (xt1 : xv1.toInt = x1) (hl : lv_has ls 2 [(0, .ref (G.2.2 1042)), (1, .int xv1)])  (h : wX8_isLetter_30 S x1 k) : W p l e (rmF 0 0) s m args below meth c H locs 0 0 (MQ below (QcI G (injR SB) (fun r u => k r ∧ u = S)) args s 0 0 (AG G)) (F0 m 30 ls []) := by
  refine lv_aload_n C.1.1 C.1.2.1 dX8_isLetter_30 rfl (lv_at hl 0 rfl) ?_
  refine y_getA C fl_X8_7 hw (ocr SB) rfl (o := 1) rfl dX8_isLetter_31 ?_
  refine lv_iload_n C.1.1 C.1.2.1 dX8_isLetter_34 rfl (lv_at hl 1 rfl) ?_
  obtain ⟨b2, h⟩ := h
  refine y_bald C hw (acr_0 SB) xt1 b2 dX8_isLetter_35 (fun v2 t2 => ?_)
  refine y_bipush C dX8_isLetter_36 ⟨by decide, by decide⟩ (fun v3 t3 => ?_)
  refine y_icmp_lt C t2 t3 dX8_isLetter_38 (tgt := 56) (by decide) (fun c4 => ?_) (fun c4 => ?_)
  · have h := h.1 c4
    refine y_iconst C dX8_isLetter_56 ⟨by decide, by decide⟩ (fun v5 t5 => ?_)
    exact y_zret C hw hS t5 (Or.inl rfl) ⟨h, rfl⟩ dX8_isLetter_57
  · have h := h.2 c4
    refine lv_aload_n C.1.1 C.1.2.1 dX8_isLetter_41 rfl (lv_at hl 0 rfl) ?_
    refine y_getA C fl_X8_7 hw (ocr SB) rfl (o := 1) rfl dX8_isLetter_42 ?_
    refine lv_iload_n C.1.1 C.1.2.1 dX8_isLetter_45 rfl (lv_at hl 1 rfl) ?_
    obtain ⟨b7, h⟩ := h
    refine y_bald C hw (acr_0 SB) xt1 b7 dX8_isLetter_46 (fun v7 t7 => ?_)
    refine y_bipush C dX8_isLetter_47 ⟨by decide, by decide⟩ (fun v8 t8 => ?_)
    refine y_icmp_gt C t7 t8 dX8_isLetter_49 (tgt := 56) (by decide) (fun c9 => ?_) (fun c9 => ?_)
    · have h := h.1 c9
      refine y_iconst C dX8_isLetter_56 ⟨by decide, by decide⟩ (fun v10 t10 => ?_)
      exact y_zret C hw hS t10 (Or.inl rfl) ⟨h, rfl⟩ dX8_isLetter_57
    · have h := h.2 c9
      refine y_iconst C dX8_isLetter_52 ⟨by decide, by decide⟩ (fun v11 t11 => ?_)
      refine lv_goto (tgt := 57) C.1.1 C.1.2.1 dX8_isLetter_53 (by decide) ?_
      exact y_zret C hw hS t11 (Or.inr rfl) ⟨h, rfl⟩ dX8_isLetter_57
set_option maxHeartbeats 4000000 in
set_option maxRecDepth 10000 in
theorem uX8_isLetter_0 {p : Program} {l : Launch} {e : Env} {s : State} {m : MethodId} {args : Array Value} {below : List Frame} {meth : Method} {c : Code} {G : GG} {SB : St} (C : Cx p s m args meth c G RX8 cX8_isLetter 2 (some .boolean)) {S : St} {H : Heap} {locs : List Loc} {ls : Array Slot}  {k : Int → Prop} (hw : Wd G ((injR SB) S) H) (hS : va_S (AG G) s.heap H locs) {xv1 : Int32} {x1 : Int} (xt1 : xv1.toInt = x1) (hl : lv_has ls 2 [(0, .ref (G.2.2 1042)), (1, .int xv1)])  (h : wX8_isLetter_0 S x1 k) : W p l e (rmF 0 0) s m args below meth c H locs 0 0 (MQ below (QcI G (injR SB) (fun r u => k r ∧ u = S)) args s 0 0 (AG G)) (F0 m 0 ls []) := by
  refine lv_iload_n C.1.1 C.1.2.1 dX8_isLetter_0 rfl (lv_at hl 1 rfl) ?_
  refine lv_aload_n C.1.1 C.1.2.1 dX8_isLetter_1 rfl (lv_at hl 0 rfl) ?_
  refine y_getI C fl_X8_161 hw (ocr SB) rfl dX8_isLetter_2 (fun v1 t1 => ?_)
  refine y_icmp_ge C xt1 t1 dX8_isLetter_5 (tgt := 56) (by decide) (fun c2 => ?_) (fun c2 => ?_)
  · have h := h.1 c2
    refine y_iconst C dX8_isLetter_56 ⟨by decide, by decide⟩ (fun v3 t3 => ?_)
    exact y_zret C hw hS t3 (Or.inl rfl) ⟨h, rfl⟩ dX8_isLetter_57
  · have h := h.2 c2
    refine lv_aload_n C.1.1 C.1.2.1 dX8_isLetter_8 rfl (lv_at hl 0 rfl) ?_
    refine y_getA C fl_X8_7 hw (ocr SB) rfl (o := 1) rfl dX8_isLetter_9 ?_
    refine lv_iload_n C.1.1 C.1.2.1 dX8_isLetter_12 rfl (lv_at hl 1 rfl) ?_
    obtain ⟨b5, h⟩ := h
    refine y_bald C hw (acr_0 SB) xt1 b5 dX8_isLetter_13 (fun v5 t5 => ?_)
    refine y_bipush C dX8_isLetter_14 ⟨by decide, by decide⟩ (fun v6 t6 => ?_)
    refine y_icmp_lt C t5 t6 dX8_isLetter_16 (tgt := 30) (by decide) (fun c7 => ?_) (fun c7 => ?_)
    · have h := h.1 c7
      exact uX8_isLetter_30 C hw hS xt1 (lv_sub hl [0, 1] rfl)  h
    · have h := h.2 c7
      refine lv_aload_n C.1.1 C.1.2.1 dX8_isLetter_19 rfl (lv_at hl 0 rfl) ?_
      refine y_getA C fl_X8_7 hw (ocr SB) rfl (o := 1) rfl dX8_isLetter_20 ?_
      refine lv_iload_n C.1.1 C.1.2.1 dX8_isLetter_23 rfl (lv_at hl 1 rfl) ?_
      obtain ⟨b9, h⟩ := h
      refine y_bald C hw (acr_0 SB) xt1 b9 dX8_isLetter_24 (fun v9 t9 => ?_)
      refine y_bipush C dX8_isLetter_25 ⟨by decide, by decide⟩ (fun v10 t10 => ?_)
      refine y_icmp_le C t9 t10 dX8_isLetter_27 (tgt := 52) (by decide) (fun c11 => ?_) (fun c11 => ?_)
      · have h := h.1 c11
        refine y_iconst C dX8_isLetter_52 ⟨by decide, by decide⟩ (fun v12 t12 => ?_)
        refine lv_goto (tgt := 57) C.1.1 C.1.2.1 dX8_isLetter_53 (by decide) ?_
        exact y_zret C hw hS t12 (Or.inr rfl) ⟨h, rfl⟩ dX8_isLetter_57
      · have h := h.2 c11
        exact uX8_isLetter_30 C hw hS xt1 (lv_sub hl [0, 1] rfl)  h
theorem kX8_isLetter (l : Launch) (G : GG) (SB S : St) {xv1 : Int32} {x1 : Int} (xt1 : xv1.toInt = x1) {k : Int → Prop} (h : wX8_isLetter S x1 k) : CnI l yX8_isLetter cX8_isLetter 2 (some .boolean) 0 0 G (injR SB) [.ref (G.2.2 1042), .int xv1] S (fun r u => k r ∧ u = S) :=
  cn_body (by decide +kernel) (Nat.le_of_ble_eq_true rfl) (fun p e s m args below meth c ls C hw hl => uX8_isLetter_0 C hw va_S.rf xt1 (lv_sub hl [0, 1] rfl) h)
set_option maxHeartbeats 4000000 in
set_option maxRecDepth 10000 in
theorem uX8_isFigure_0 {p : Program} {l : Launch} {e : Env} {s : State} {m : MethodId} {args : Array Value} {below : List Frame} {meth : Method} {c : Code} {G : GG} {SB : St} (C : Cx p s m args meth c G RX8 cX8_isFigure 2 (some .boolean)) {S : St} {H : Heap} {locs : List Loc} {ls : Array Slot}  {k : Int → Prop} (hw : Wd G ((injR SB) S) H) (hS : va_S (AG G) s.heap H locs) {xv1 : Int32} {x1 : Int} (xt1 : xv1.toInt = x1) (hl : lv_has ls 2 [(0, .ref (G.2.2 1042)), (1, .int xv1)])  (h : wX8_isFigure_0 S x1 k) : W p l e (rmF 0 0) s m args below meth c H locs 0 0 (MQ below (QcI G (injR SB) (fun r u => k r ∧ u = S)) args s 0 0 (AG G)) (F0 m 0 ls []) := by
  refine lv_iload_n C.1.1 C.1.2.1 dX8_isFigure_0 rfl (lv_at hl 1 rfl) ?_
  refine lv_aload_n C.1.1 C.1.2.1 dX8_isFigure_1 rfl (lv_at hl 0 rfl) ?_
  refine y_getI C fl_X8_161 hw (ocr SB) rfl dX8_isFigure_2 (fun v1 t1 => ?_)
  refine y_icmp_ge C xt1 t1 dX8_isFigure_5 (tgt := 34) (by decide) (fun c2 => ?_) (fun c2 => ?_)
  · have h := h.1 c2
    refine y_iconst C dX8_isFigure_34 ⟨by decide, by decide⟩ (fun v3 t3 => ?_)
    exact y_zret C hw hS t3 (Or.inl rfl) ⟨h, rfl⟩ dX8_isFigure_35
  · have h := h.2 c2
    refine lv_aload_n C.1.1 C.1.2.1 dX8_isFigure_8 rfl (lv_at hl 0 rfl) ?_
    refine y_getA C fl_X8_7 hw (ocr SB) rfl (o := 1) rfl dX8_isFigure_9 ?_
    refine lv_iload_n C.1.1 C.1.2.1 dX8_isFigure_12 rfl (lv_at hl 1 rfl) ?_
    obtain ⟨b5, h⟩ := h
    refine y_bald C hw (acr_0 SB) xt1 b5 dX8_isFigure_13 (fun v5 t5 => ?_)
    refine y_bipush C dX8_isFigure_14 ⟨by decide, by decide⟩ (fun v6 t6 => ?_)
    refine y_icmp_lt C t5 t6 dX8_isFigure_16 (tgt := 34) (by decide) (fun c7 => ?_) (fun c7 => ?_)
    · have h := h.1 c7
      refine y_iconst C dX8_isFigure_34 ⟨by decide, by decide⟩ (fun v8 t8 => ?_)
      exact y_zret C hw hS t8 (Or.inl rfl) ⟨h, rfl⟩ dX8_isFigure_35
    · have h := h.2 c7
      refine lv_aload_n C.1.1 C.1.2.1 dX8_isFigure_19 rfl (lv_at hl 0 rfl) ?_
      refine y_getA C fl_X8_7 hw (ocr SB) rfl (o := 1) rfl dX8_isFigure_20 ?_
      refine lv_iload_n C.1.1 C.1.2.1 dX8_isFigure_23 rfl (lv_at hl 1 rfl) ?_
      obtain ⟨b10, h⟩ := h
      refine y_bald C hw (acr_0 SB) xt1 b10 dX8_isFigure_24 (fun v10 t10 => ?_)
      refine y_bipush C dX8_isFigure_25 ⟨by decide, by decide⟩ (fun v11 t11 => ?_)
      refine y_icmp_gt C t10 t11 dX8_isFigure_27 (tgt := 34) (by decide) (fun c12 => ?_) (fun c12 => ?_)
      · have h := h.1 c12
        refine y_iconst C dX8_isFigure_34 ⟨by decide, by decide⟩ (fun v13 t13 => ?_)
        exact y_zret C hw hS t13 (Or.inl rfl) ⟨h, rfl⟩ dX8_isFigure_35
      · have h := h.2 c12
        refine y_iconst C dX8_isFigure_30 ⟨by decide, by decide⟩ (fun v14 t14 => ?_)
        refine lv_goto (tgt := 35) C.1.1 C.1.2.1 dX8_isFigure_31 (by decide) ?_
        exact y_zret C hw hS t14 (Or.inr rfl) ⟨h, rfl⟩ dX8_isFigure_35
theorem kX8_isFigure (l : Launch) (G : GG) (SB S : St) {xv1 : Int32} {x1 : Int} (xt1 : xv1.toInt = x1) {k : Int → Prop} (h : wX8_isFigure S x1 k) : CnI l yX8_isFigure cX8_isFigure 2 (some .boolean) 0 0 G (injR SB) [.ref (G.2.2 1042), .int xv1] S (fun r u => k r ∧ u = S) :=
  cn_body (by decide +kernel) (Nat.le_of_ble_eq_true rfl) (fun p e s m args below meth c ls C hw hl => uX8_isFigure_0 C hw va_S.rf xt1 (lv_sub hl [0, 1] rfl) h)
set_option maxHeartbeats 4000000 in
set_option maxRecDepth 10000 in
theorem uX8_next_39 {p : Program} {l : Launch} {e : Env} {s : State} {m : MethodId} {args : Array Value} {below : List Frame} {meth : Method} {c : Code} {G : GG} {SB : St} (C : Cx p s m args meth c G RX8 cX8_next 4 none) {S : St} {H : Heap} {locs : List Loc} {ls : Array Slot} {P0 : St → Prop} {k : St → Prop} (hw : Wd G ((injR SB) S) H) (hS : va_S (AG G) s.heap H locs)  (hl : lv_has ls 4 [(0, .ref (G.2.2 1042))]) (hP0 : ∀ {H : Heap} {locs : List Loc} {ls : Array Slot} {Sy : St} , Wd G ((injR SB) Sy) H → va_S (AG G) s.heap H locs → lv_has ls 4 [(0, .ref (G.2.2 1042))] → P0 Sy → W p l e (rmF 1 21) s m args below meth c H locs 0 0 (MQ below (QcV G (injR SB) k) args s 0 0 (AG G)) (F0 m 0 ls [])) (h : wX8_next_39 S P0 k) : W p l e (rmF 1 21) s m args below meth c H locs 0 0 (MQ below (QcV G (injR SB) k) args s 0 0 (AG G)) (F0 m 39 ls []) := by
  refine lv_aload_n C.1.1 C.1.2.1 dX8_next_39 rfl (lv_at hl 0 rfl) ?_
  refine lv_dup C.1.1 C.1.2.1 dX8_next_40 rfl ?_
  refine y_getI C fl_X8_169 hw (ocr SB) rfl dX8_next_41 (fun v1 t1 => ?_)
  refine y_iconst C dX8_next_44 ⟨by decide, by decide⟩ (fun v2 t2 => ?_)
  refine y_iadd C t1 t2 dX8_next_45 (fun v3 t3 => ?_)
  obtain ⟨S_4, e4⟩ : ∃ z : St, z = up S 0 4 (w32 (S 0 4 + 1)) := ⟨_, rfl⟩
  have h := h S_4 e4
  refine y_putI C fl_X8_169 fp_8_4 hw hS (ocr SB) rfl t3 dX8_next_46 (fun H locs hw hS => ?_)
  have hw : Wd G ((injR SB) S_4) H := by rw [e4]; exact hw
  refine lv_goto (tgt := 0) C.1.1 C.1.2.1 dX8_next_49 (by decide) ?_
  exact hP0  hw hS (lv_sub hl [0] rfl) h
set_option maxHeartbeats 4000000 in
set_option maxRecDepth 10000 in
theorem uX8_next_127 {p : Program} {l : Launch} {e : Env} {s : State} {m : MethodId} {args : Array Value} {below : List Frame} {meth : Method} {c : Code} {G : GG} {SB : St} (C : Cx p s m args meth c G RX8 cX8_next 4 none) {S : St} {H : Heap} {locs : List Loc} {ls : Array Slot} {P105 : Int → St → Prop} {k : St → Prop} (hw : Wd G ((injR SB) S) H) (hS : va_S (AG G) s.heap H locs) {xv2 : Int32} {x2 : Int} (xt2 : xv2.toInt = x2) (hl : lv_has ls 4 [(0, .ref (G.2.2 1042)), (2, .int xv2)]) (hP105 : ∀ {H : Heap} {locs : List Loc} {ls : Array Slot} {Sy : St} {yv2 : Int32} {y2 : Int}, yv2.toInt = y2 → Wd G ((injR SB) Sy) H → va_S (AG G) s.heap H locs → lv_has ls 4 [(0, .ref (G.2.2 1042)), (2, .int yv2)] → P105 y2 Sy → W p l e (rmF 1 21) s m args below meth c H locs 0 0 (MQ below (QcV G (injR SB) k) args s 0 0 (AG G)) (F0 m 105 ls [])) (h : wX8_next_127 S x2 P105 k) : W p l e (rmF 1 21) s m args below meth c H locs 0 0 (MQ below (QcV G (injR SB) k) args s 0 0 (AG G)) (F0 m 127 ls []) := by
  refine lv_aload_n C.1.1 C.1.2.1 dX8_next_127 rfl (lv_at hl 0 rfl) ?_
  refine lv_aload_n C.1.1 C.1.2.1 dX8_next_128 rfl (lv_at hl 0 rfl) ?_
  refine y_getJ C fl_X8_182 hw (ocr SB) rfl dX8_next_129 (fun v1 t1 => ?_)
  refine y_bipush C dX8_next_132 ⟨by decide, by decide⟩ (fun v2 t2 => ?_)
  refine y_lshl C t1 t2 dX8_next_134 (fun v3 t3 => ?_)
  refine lv_aload_n C.1.1 C.1.2.1 dX8_next_135 rfl (lv_at hl 0 rfl) ?_
  refine y_getA C fl_X8_7 hw (ocr SB) rfl (o := 1) rfl dX8_next_136 ?_
  refine lv_aload_n C.1.1 C.1.2.1 dX8_next_139 rfl (lv_at hl 0 rfl) ?_
  refine y_getI C fl_X8_169 hw (ocr SB) rfl dX8_next_140 (fun v5 t5 => ?_)
  obtain ⟨b6, h⟩ := h
  refine y_bald C hw (acr_0 SB) t5 b6 dX8_next_143 (fun v6 t6 => ?_)
  refine y_i2l C t6 dX8_next_144 (fun v7 t7 => ?_)
  refine y_lor C t3 t7 dX8_next_145 (fun v8 t8 => ?_)
  obtain ⟨S_9, e9⟩ : ∃ z : St, z = up S 0 7 (or64 (shl64 (S 0 7) 8) (S 1 (S 0 4))) := ⟨_, rfl⟩
  have h := h S_9 e9
  refine y_putJ C fl_X8_182 fp_8_7 hw hS (ocr SB) rfl t8 dX8_next_146 (fun H locs hw hS => ?_)
  have hw : Wd G ((injR SB) S_9) H := by rw [e9]; exact hw
  refine lv_aload_n C.1.1 C.1.2.1 dX8_next_149 rfl (lv_at hl 0 rfl) ?_
  refine lv_dup C.1.1 C.1.2.1 dX8_next_150 rfl ?_
  refine y_getI C fl_X8_169 hw (ocr SB) rfl dX8_next_151 (fun v10 t10 => ?_)
  refine y_iconst C dX8_next_154 ⟨by decide, by decide⟩ (fun v11 t11 => ?_)
  refine y_iadd C t10 t11 dX8_next_155 (fun v12 t12 => ?_)
  obtain ⟨S_13, e13⟩ : ∃ z : St, z = up S_9 0 4 (w32 (S_9 0 4 + 1)) := ⟨_, rfl⟩
  have h := h S_13 e13
  refine y_putI C fl_X8_169 fp_8_4 hw hS (ocr SB) rfl t12 dX8_next_156 (fun H locs hw hS => ?_)
  have hw : Wd G ((injR SB) S_13) H := by rw [e13]; exact hw
  obtain ⟨x_14, e14⟩ : ∃ z : Int, z = w32 (x2 + 1) := ⟨_, rfl⟩
  have h := h x_14 e14
  obtain ⟨v14, t14, g14⟩ : ∃ z : Int32, z.toInt = x_14 ∧ xv2 + Int32.ofInt 1 = z := ⟨_, (ti_inc xt2 ⟨by decide, by decide⟩).trans e14.symm, rfl⟩
  refine lv_iinc (v := v14) (lv' := [(2, .int v14), (0, .ref (G.2.2 1042))]) C.1.1 C.1.2.1 dX8_next_159 hl (k := 1) rfl g14 (by decide) rfl (fun ls hl => ?_)
  refine lv_goto (tgt := 105) C.1.1 C.1.2.1 dX8_next_162 (by decide) ?_
  exact hP105 t14 hw hS (lv_sub hl [1, 0] rfl) h
set_option maxHeartbeats 4000000 in
set_option maxRecDepth 10000 in
theorem uX8_next_222 {p : Program} {l : Launch} {e : Env} {s : State} {m : MethodId} {args : Array Value} {below : List Frame} {meth : Method} {c : Code} {G : GG} {SB : St} (C : Cx p s m args meth c G RX8 cX8_next 4 none) {S : St} {H : Heap} {locs : List Loc} {ls : Array Slot} {P182 : Int → St → Prop} {k : St → Prop} (hw : Wd G ((injR SB) S) H) (hS : va_S (AG G) s.heap H locs) {xv3 : Int32} {x3 : Int} (xt3 : xv3.toInt = x3) {sv1 : Int32} {s1 : Int} (st1 : sv1.toInt = s1) (hl : lv_has ls 4 [(0, .ref (G.2.2 1042)), (3, .int xv3)]) (hP182 : ∀ {H : Heap} {locs : List Loc} {ls : Array Slot} {Sy : St} {yv3 : Int32} {y3 : Int}, yv3.toInt = y3 → Wd G ((injR SB) Sy) H → va_S (AG G) s.heap H locs → lv_has ls 4 [(0, .ref (G.2.2 1042)), (3, .int yv3)] → P182 y3 Sy → W p l e (rmF 1 21) s m args below meth c H locs 0 0 (MQ below (QcV G (injR SB) k) args s 0 0 (AG G)) (F0 m 182 ls [])) (h : wX8_next_222 S x3 s1 P182 k) : W p l e (rmF 1 21) s m args below meth c H locs 0 0 (MQ below (QcV G (injR SB) k) args s 0 0 (AG G)) (F0 m 222 ls [.int sv1, .ref (G.2.2 1042)]) := by
  obtain ⟨S_1, e1⟩ : ∃ z : St, z = up S 0 5 s1 := ⟨_, rfl⟩
  have h := h S_1 e1
  refine y_putI C fl_X8_175 fp_8_5 hw hS (ocr SB) rfl st1 dX8_next_222 (fun H locs hw hS => ?_)
  have hw : Wd G ((injR SB) S_1) H := by rw [e1]; exact hw
  obtain ⟨x_2, e2⟩ : ∃ z : Int, z = w32 (x3 + 1) := ⟨_, rfl⟩
  have h := h x_2 e2
  obtain ⟨v2, t2, g2⟩ : ∃ z : Int32, z.toInt = x_2 ∧ xv3 + Int32.ofInt 1 = z := ⟨_, (ti_inc xt3 ⟨by decide, by decide⟩).trans e2.symm, rfl⟩
  refine lv_iinc (v := v2) (lv' := [(3, .int v2), (0, .ref (G.2.2 1042))]) C.1.1 C.1.2.1 dX8_next_225 hl (k := 1) rfl g2 (by decide) rfl (fun ls hl => ?_)
  refine lv_goto (tgt := 182) C.1.1 C.1.2.1 dX8_next_228 (by decide) ?_
  exact hP182 t2 hw hS (lv_sub hl [1, 0] rfl) h
set_option maxHeartbeats 4000000 in
set_option maxRecDepth 10000 in
theorem uX8_next_182_b {p : Program} {l : Launch} {e : Env} {s : State} {m : MethodId} {args : Array Value} {below : List Frame} {meth : Method} {c : Code} {G : GG} {SB : St} (C : Cx p s m args meth c G RX8 cX8_next 4 none) {S : St} {H : Heap} {locs : List Loc} {ls : Array Slot}  {P182 : Int → St → Prop} {k : St → Prop} (hw : Wd G ((injR SB) S) H) (hS : va_S (AG G) s.heap H locs) {xv3 : Int32} {x3 : Int} (xt3 : xv3.toInt = x3) (hl : lv_has ls 4 [(0, .ref (G.2.2 1042)), (3, .int xv3)])  (hP182 : ∀ {H : Heap} {locs : List Loc} {ls : Array Slot} {Sy : St} {yv3 : Int32} {y3 : Int}, yv3.toInt = y3 → Wd G ((injR SB) Sy) H → va_S (AG G) s.heap H locs → lv_has ls 4 [(0, .ref (G.2.2 1042)), (3, .int yv3)] → P182 y3 Sy → W p l e (rmF 1 21) s m args below meth c H locs 0 0 (MQ below (QcV G (injR SB) k) args s 0 0 (AG G)) (F0 m 182 ls [])) (h : wX8_next_182_b S x3 P182 k) : W p l e (rmF 1 21) s m args below meth c H locs 0 0 (MQ below (QcV G (injR SB) k) args s 0 0 (AG G)) (F0 m 182 ls []) := by
  refine lv_iload_n C.1.1 C.1.2.1 dX8_next_182 rfl (lv_at hl 1 rfl) ?_
  refine y_bipush C dX8_next_183 ⟨by decide, by decide⟩ (fun v1 t1 => ?_)
  refine y_icmp_ge C xt3 t1 dX8_next_185 (tgt := 231) (by decide) (fun c2 => ?_) (fun c2 => ?_)
  · have h := h.1 c2
    refine lv_goto (tgt := 355) C.1.1 C.1.2.1 dX8_next_231 (by decide) ?_
    exact y_vret C hw hS h dX8_next_355
  · have h := h.2 c2
    refine lv_aload_n C.1.1 C.1.2.1 dX8_next_188 rfl (lv_at hl 0 rfl) ?_
    refine y_getI C fl_X8_175 hw (ocr SB) rfl dX8_next_189 (fun v3 t3 => ?_)
    refine y_iconst C dX8_next_192 ⟨by decide, by decide⟩ (fun v4 t4 => ?_)
    refine y_icmp_ne C t3 t4 dX8_next_193 (tgt := 231) (by decide) (fun c5 => ?_) (fun c5 => ?_)
    · have h := h.1 c5
      refine lv_goto (tgt := 355) C.1.1 C.1.2.1 dX8_next_231 (by decide) ?_
      exact y_vret C hw hS h dX8_next_355
    · have h := h.2 c5
      refine lv_aload_n C.1.1 C.1.2.1 dX8_next_196 rfl (lv_at hl 0 rfl) ?_
      refine lv_aload_n C.1.1 C.1.2.1 dX8_next_197 rfl (lv_at hl 0 rfl) ?_
      refine y_getA C fl_X8_41 hw (ocr SB) rfl (o := 2) rfl dX8_next_198 ?_
      refine lv_iload_n C.1.1 C.1.2.1 dX8_next_201 rfl (lv_at hl 1 rfl) ?_
      obtain ⟨b7, h⟩ := h
      refine y_lald C hw (acr_3 SB) xt3 b7 dX8_next_202 (fun v7 t7 => ?_)
      refine lv_aload_n C.1.1 C.1.2.1 dX8_next_203 rfl (lv_at hl 0 rfl) ?_
      refine y_getJ C fl_X8_182 hw (ocr SB) rfl dX8_next_204 (fun v8 t8 => ?_)
      refine y_lcmp C t7 t8 dX8_next_207 (fun v9 t9 => ?_)
      refine y_if_ne C t9 dX8_next_208 (tgt := 218) (by decide) (fun c10 => ?_) (fun c10 => ?_)
      · have c10 := cmp_ne.mp c10
        have h := h.1 c10
        refine lv_aload_n C.1.1 C.1.2.1 dX8_next_218 rfl (lv_at hl 0 rfl) ?_
        refine y_getI C fl_X8_175 hw (ocr SB) rfl dX8_next_219 (fun v11 t11 => ?_)
        exact uX8_next_222 C hw hS xt3 t11 (lv_sub hl [0, 1] rfl) hP182 h
      · have c10 := cmp_eq.mp c10
        have h := h.2 c10
        refine y_bipush C dX8_next_211 ⟨by decide, by decide⟩ (fun v12 t12 => ?_)
        refine lv_iload_n C.1.1 C.1.2.1 dX8_next_213 rfl (lv_at hl 1 rfl) ?_
        refine y_iadd C t12 xt3 dX8_next_214 (fun v13 t13 => ?_)
        refine lv_goto (tgt := 222) C.1.1 C.1.2.1 dX8_next_215 (by decide) ?_
        exact uX8_next_222 C hw hS xt3 t13 (lv_sub hl [0, 1] rfl) hP182 h
set_option maxHeartbeats 4000000 in
set_option maxRecDepth 10000 in
theorem uX8_next_182 {p : Program} {l : Launch} {e : Env} {s : State} {m : MethodId} {args : Array Value} {below : List Frame} {meth : Method} {c : Code} {G : GG} {SB : St} (C : Cx p s m args meth c G RX8 cX8_next 4 none) {S : St} {H : Heap} {locs : List Loc} {ls : Array Slot}  {k : St → Prop} (hw : Wd G ((injR SB) S) H) (hS : va_S (AG G) s.heap H locs) {xv3 : Int32} {x3 : Int} (xt3 : xv3.toInt = x3) (hl : lv_has ls 4 [(0, .ref (G.2.2 1042)), (3, .int xv3)])  (h : wX8_next_182 S x3 k) : W p l e (rmF 1 21) s m args below meth c H locs 0 0 (MQ below (QcV G (injR SB) k) args s 0 0 (AG G)) (F0 m 182 ls []) := by
  have key : ∀ (n : Nat) {H : Heap} {locs : List Loc} {ls : Array Slot} {S : St} {xv3 : Int32} {x3 : Int}, xv3.toInt = x3 → Wd G ((injR SB) S) H → va_S (AG G) s.heap H locs → lv_has ls 4 [(0, .ref (G.2.2 1042)), (3, .int xv3)] → itP (fun (P : Int × St → Prop) (a : Int × St) => wX8_next_182_b a.2 a.1 (fun b0 b1 => P (b0, b1)) k) n (x3, S) → W p l e (rmF 1 21) s m args below meth c H locs 0 0 (MQ below (QcV G (injR SB) k) args s 0 0 (AG G)) (F0 m 182 ls []) := by
    intro n
    induction n with
    | zero => intro H locs ls S xv3 x3 xt3 hw hS hl h; exact h.elim
    | succ n ih =>
      intro H locs ls S xv3 x3 xt3 hw hS hl h
      exact uX8_next_182_b C hw hS xt3 hl  (P182 := fun b0 b1 => itP _ n (b0, b1)) (fun q0 hw hS hl h => ih q0 hw hS hl h) h
  obtain ⟨n, hn⟩ := h
  exact key n xt3 hw hS hl hn
set_option maxHeartbeats 4000000 in
set_option maxRecDepth 10000 in
theorem uX8_next_177 {p : Program} {l : Launch} {e : Env} {s : State} {m : MethodId} {args : Array Value} {below : List Frame} {meth : Method} {c : Code} {G : GG} {SB : St} (C : Cx p s m args meth c G RX8 cX8_next 4 none) {S : St} {H : Heap} {locs : List Loc} {ls : Array Slot}  {k : St → Prop} (hw : Wd G ((injR SB) S) H) (hS : va_S (AG G) s.heap H locs) {sv1 : Int32} {s1 : Int} (st1 : sv1.toInt = s1) (hl : lv_has ls 4 [(0, .ref (G.2.2 1042))])  (h : wX8_next_177 S s1 k) : W p l e (rmF 1 21) s m args below meth c H locs 0 0 (MQ below (QcV G (injR SB) k) args s 0 0 (AG G)) (F0 m 177 ls [.int sv1, .ref (G.2.2 1042)]) := by
  obtain ⟨S_1, e1⟩ : ∃ z : St, z = up S 0 5 s1 := ⟨_, rfl⟩
  have h := h S_1 e1
  refine y_putI C fl_X8_175 fp_8_5 hw hS (ocr SB) rfl st1 dX8_next_177 (fun H locs hw hS => ?_)
  have hw : Wd G ((injR SB) S_1) H := by rw [e1]; exact hw
  refine y_iconst C dX8_next_180 ⟨by decide, by decide⟩ (fun v2 t2 => ?_)
  refine lv_istore_n (lv' := [(3, .int v2), (0, .ref (G.2.2 1042))]) C.1.1 C.1.2.1 dX8_next_181 rfl hl (by decide) rfl (fun ls hl => ?_)
  exact uX8_next_182 C hw hS t2 (lv_sub hl [1, 0] rfl)  h
set_option maxHeartbeats 4000000 in
set_option maxRecDepth 10000 in
theorem uX8_next_105_b {p : Program} {l : Launch} {e : Env} {s : State} {m : MethodId} {args : Array Value} {below : List Frame} {meth : Method} {c : Code} {G : GG} {SB : St} (C : Cx p s m args meth c G RX8 cX8_next 4 none) {S : St} {H : Heap} {locs : List Loc} {ls : Array Slot}  {P105 : Int → St → Prop} {k : St → Prop} (hw : Wd G ((injR SB) S) H) (hS : va_S (AG G) s.heap H locs) {xv2 : Int32} {x2 : Int} (xt2 : xv2.toInt = x2) (hl : lv_has ls 4 [(0, .ref (G.2.2 1042)), (2, .int xv2)])  (hP105 : ∀ {H : Heap} {locs : List Loc} {ls : Array Slot} {Sy : St} {yv2 : Int32} {y2 : Int}, yv2.toInt = y2 → Wd G ((injR SB) Sy) H → va_S (AG G) s.heap H locs → lv_has ls 4 [(0, .ref (G.2.2 1042)), (2, .int yv2)] → P105 y2 Sy → W p l e (rmF 1 21) s m args below meth c H locs 0 0 (MQ below (QcV G (injR SB) k) args s 0 0 (AG G)) (F0 m 105 ls [])) (h : wX8_next_105_b S x2 P105 k) : W p l e (rmF 1 21) s m args below meth c H locs 0 0 (MQ below (QcV G (injR SB) k) args s 0 0 (AG G)) (F0 m 105 ls []) := by
  refine lv_aload_n C.1.1 C.1.2.1 dX8_next_105 rfl (lv_at hl 0 rfl) ?_
  refine lv_aload_n C.1.1 C.1.2.1 dX8_next_106 rfl (lv_at hl 0 rfl) ?_
  refine y_getI C fl_X8_169 hw (ocr SB) rfl dX8_next_107 (fun v1 t1 => ?_)
  refine y_cVIp C (As := [.int v1]) (rest := []) ml_X8_178 (kX8_isLetter l G SB S t1 h) (ocr SB) (T := TX8) (N := 60) rfl (by decide) ⟨(Nat.le_of_ble_eq_true rfl), (Nat.le_of_ble_eq_true rfl)⟩ hl.1 rfl rfl (Nat.le_of_ble_eq_true rfl) hw hS dX8_next_110 (fun v2 x_2 H locs t2 h hw hS => ?_)
  refine y_if_ne C t2 dX8_next_113 (tgt := 127) (by decide) (fun c3 => ?_) (fun c3 => ?_)
  · have h := h.1 c3
    exact uX8_next_127 C hw hS xt2 (lv_sub hl [0, 1] rfl) hP105 h
  · have h := h.2 c3
    refine lv_aload_n C.1.1 C.1.2.1 dX8_next_116 rfl (lv_at hl 0 rfl) ?_
    refine lv_aload_n C.1.1 C.1.2.1 dX8_next_117 rfl (lv_at hl 0 rfl) ?_
    refine y_getI C fl_X8_169 hw (ocr SB) rfl dX8_next_118 (fun v4 t4 => ?_)
    refine y_cVIp C (As := [.int v4]) (rest := []) ml_X8_186 (kX8_isFigure l G SB S t4 h) (ocr SB) (T := TX8) (N := 60) rfl (by decide) ⟨(Nat.le_of_ble_eq_true rfl), (Nat.le_of_ble_eq_true rfl)⟩ hl.1 rfl rfl (Nat.le_of_ble_eq_true rfl) hw hS dX8_next_121 (fun v5 x_5 H locs t5 h hw hS => ?_)
    refine y_if_eq C t5 dX8_next_124 (tgt := 165) (by decide) (fun c6 => ?_) (fun c6 => ?_)
    · have h := h.1 c6
      refine lv_aload_n C.1.1 C.1.2.1 dX8_next_165 rfl (lv_at hl 0 rfl) ?_
      refine lv_iload_n C.1.1 C.1.2.1 dX8_next_166 rfl (lv_at hl 1 rfl) ?_
      refine y_bipush C dX8_next_167 ⟨by decide, by decide⟩ (fun v7 t7 => ?_)
      refine y_icmp_le C xt2 t7 dX8_next_169 (tgt := 176) (by decide) (fun c8 => ?_) (fun c8 => ?_)
      · have h := h.1 c8
        refine y_iconst C dX8_next_176 ⟨by decide, by decide⟩ (fun v9 t9 => ?_)
        exact uX8_next_177 C hw hS t9 (lv_sub hl [0] rfl)  h
      · have h := h.2 c8
        refine y_iconst C dX8_next_172 ⟨by decide, by decide⟩ (fun v10 t10 => ?_)
        refine lv_goto (tgt := 177) C.1.1 C.1.2.1 dX8_next_173 (by decide) ?_
        exact uX8_next_177 C hw hS t10 (lv_sub hl [0] rfl)  h
    · have h := h.2 c6
      exact uX8_next_127 C hw hS xt2 (lv_sub hl [0, 1] rfl) hP105 h
set_option maxHeartbeats 4000000 in
set_option maxRecDepth 10000 in
theorem uX8_next_105 {p : Program} {l : Launch} {e : Env} {s : State} {m : MethodId} {args : Array Value} {below : List Frame} {meth : Method} {c : Code} {G : GG} {SB : St} (C : Cx p s m args meth c G RX8 cX8_next 4 none) {S : St} {H : Heap} {locs : List Loc} {ls : Array Slot}  {k : St → Prop} (hw : Wd G ((injR SB) S) H) (hS : va_S (AG G) s.heap H locs) {xv2 : Int32} {x2 : Int} (xt2 : xv2.toInt = x2) (hl : lv_has ls 4 [(0, .ref (G.2.2 1042)), (2, .int xv2)])  (h : wX8_next_105 S x2 k) : W p l e (rmF 1 21) s m args below meth c H locs 0 0 (MQ below (QcV G (injR SB) k) args s 0 0 (AG G)) (F0 m 105 ls []) := by
  have key : ∀ (n : Nat) {H : Heap} {locs : List Loc} {ls : Array Slot} {S : St} {xv2 : Int32} {x2 : Int}, xv2.toInt = x2 → Wd G ((injR SB) S) H → va_S (AG G) s.heap H locs → lv_has ls 4 [(0, .ref (G.2.2 1042)), (2, .int xv2)] → itP (fun (P : Int × St → Prop) (a : Int × St) => wX8_next_105_b a.2 a.1 (fun b0 b1 => P (b0, b1)) k) n (x2, S) → W p l e (rmF 1 21) s m args below meth c H locs 0 0 (MQ below (QcV G (injR SB) k) args s 0 0 (AG G)) (F0 m 105 ls []) := by
    intro n
    induction n with
    | zero => intro H locs ls S xv2 x2 xt2 hw hS hl h; exact h.elim
    | succ n ih =>
      intro H locs ls S xv2 x2 xt2 hw hS hl h
      exact uX8_next_105_b C hw hS xt2 hl  (P105 := fun b0 b1 => itP _ n (b0, b1)) (fun q0 hw hS hl h => ih q0 hw hS hl h) h
  obtain ⟨n, hn⟩ := h
  exact key n xt2 hw hS hl hn
set_option maxHeartbeats 4000000 in
set_option maxRecDepth 10000 in
theorem uX8_next_342 {p : Program} {l : Launch} {e : Env} {s : State} {m : MethodId} {args : Array Value} {below : List Frame} {meth : Method} {c : Code} {G : GG} {SB : St} (C : Cx p s m args meth c G RX8 cX8_next 4 none) {S : St} {H : Heap} {locs : List Loc} {ls : Array Slot}  {k : St → Prop} (hw : Wd G ((injR SB) S) H) (hS : va_S (AG G) s.heap H locs) {sv1 : Int32} {s1 : Int} (st1 : sv1.toInt = s1) (hl : lv_has ls 4 [(0, .ref (G.2.2 1042))])  (h : wX8_next_342 S s1 k) : W p l e (rmF 1 21) s m args below meth c H locs 0 0 (MQ below (QcV G (injR SB) k) args s 0 0 (AG G)) (F0 m 342 ls [.int sv1, .ref (G.2.2 1042)]) := by
  obtain ⟨S_1, e1⟩ : ∃ z : St, z = up S 0 5 s1 := ⟨_, rfl⟩
  have h := h S_1 e1
  refine y_putI C fl_X8_175 fp_8_5 hw hS (ocr SB) rfl st1 dX8_next_342 (fun H locs hw hS => ?_)
  have hw : Wd G ((injR SB) S_1) H := by rw [e1]; exact hw
  refine lv_aload_n C.1.1 C.1.2.1 dX8_next_345 rfl (lv_at hl 0 rfl) ?_
  refine lv_dup C.1.1 C.1.2.1 dX8_next_346 rfl ?_
  refine y_getI C fl_X8_169 hw (ocr SB) rfl dX8_next_347 (fun v2 t2 => ?_)
  refine y_iconst C dX8_next_350 ⟨by decide, by decide⟩ (fun v3 t3 => ?_)
  refine y_iadd C t2 t3 dX8_next_351 (fun v4 t4 => ?_)
  obtain ⟨S_5, e5⟩ : ∃ z : St, z = up S_1 0 4 (w32 (S_1 0 4 + 1)) := ⟨_, rfl⟩
  have h := h S_5 e5
  refine y_putI C fl_X8_169 fp_8_4 hw hS (ocr SB) rfl t4 dX8_next_352 (fun H locs hw hS => ?_)
  have hw : Wd G ((injR SB) S_5) H := by rw [e5]; exact hw
  exact y_vret C hw hS h dX8_next_355
set_option maxHeartbeats 4000000 in
set_option maxRecDepth 10000 in
theorem uX8_next_331 {p : Program} {l : Launch} {e : Env} {s : State} {m : MethodId} {args : Array Value} {below : List Frame} {meth : Method} {c : Code} {G : GG} {SB : St} (C : Cx p s m args meth c G RX8 cX8_next 4 none) {S : St} {H : Heap} {locs : List Loc} {ls : Array Slot}  {k : St → Prop} (hw : Wd G ((injR SB) S) H) (hS : va_S (AG G) s.heap H locs) {xv1 : Int32} {x1 : Int} (xt1 : xv1.toInt = x1) {sv0 : Int32} {s0 : Int} (st0 : sv0.toInt = s0) (hl : lv_has ls 4 [(0, .ref (G.2.2 1042)), (1, .int xv1)])  (h : wX8_next_331 S x1 s0 k) : W p l e (rmF 1 21) s m args below meth c H locs 0 0 (MQ below (QcV G (injR SB) k) args s 0 0 (AG G)) (F0 m 331 ls [.int sv0]) := by
  refine lv_istore_n (lv' := [(2, .int sv0), (0, .ref (G.2.2 1042)), (1, .int xv1)]) C.1.1 C.1.2.1 dX8_next_331 rfl hl (by decide) rfl (fun ls hl => ?_)
  refine lv_aload_n C.1.1 C.1.2.1 dX8_next_332 rfl (lv_at hl 1 rfl) ?_
  refine lv_iload_n C.1.1 C.1.2.1 dX8_next_333 rfl (lv_at hl 0 rfl) ?_
  refine y_if_eq C st0 dX8_next_334 (tgt := 341) (by decide) (fun c1 => ?_) (fun c1 => ?_)
  · have h := h.1 c1
    refine y_iconst C dX8_next_341 ⟨by decide, by decide⟩ (fun v2 t2 => ?_)
    exact uX8_next_342 C hw hS t2 (lv_sub hl [1] rfl)  h
  · have h := h.2 c1
    refine lv_iload_n C.1.1 C.1.2.1 dX8_next_337 rfl (lv_at hl 2 rfl) ?_
    refine lv_goto (tgt := 342) C.1.1 C.1.2.1 dX8_next_338 (by decide) ?_
    exact uX8_next_342 C hw hS xt1 (lv_sub hl [1] rfl)  h
set_option maxHeartbeats 4000000 in
set_option maxRecDepth 10000 in
theorem uX8_next_326 {p : Program} {l : Launch} {e : Env} {s : State} {m : MethodId} {args : Array Value} {below : List Frame} {meth : Method} {c : Code} {G : GG} {SB : St} (C : Cx p s m args meth c G RX8 cX8_next 4 none) {S : St} {H : Heap} {locs : List Loc} {ls : Array Slot}  {k : St → Prop} (hw : Wd G ((injR SB) S) H) (hS : va_S (AG G) s.heap H locs) {xv1 : Int32} {x1 : Int} (xt1 : xv1.toInt = x1) (hl : lv_has ls 4 [(0, .ref (G.2.2 1042)), (1, .int xv1)])  (h : wX8_next_326 S x1 k) : W p l e (rmF 1 21) s m args below meth c H locs 0 0 (MQ below (QcV G (injR SB) k) args s 0 0 (AG G)) (F0 m 326 ls []) := by
  refine y_iconst C dX8_next_326 ⟨by decide, by decide⟩ (fun v1 t1 => ?_)
  refine lv_goto (tgt := 331) C.1.1 C.1.2.1 dX8_next_327 (by decide) ?_
  exact uX8_next_331 C hw hS xt1 t1 (lv_sub hl [0, 1] rfl)  h
set_option maxHeartbeats 4000000 in
set_option maxRecDepth 10000 in
theorem uX8_next_52 {p : Program} {l : Launch} {e : Env} {s : State} {m : MethodId} {args : Array Value} {below : List Frame} {meth : Method} {c : Code} {G : GG} {SB : St} (C : Cx p s m args meth c G RX8 cX8_next 4 none) {S : St} {H : Heap} {locs : List Loc} {ls : Array Slot}  {k : St → Prop} (hw : Wd G ((injR SB) S) H) (hS : va_S (AG G) s.heap H locs)  (hl : lv_has ls 4 [(0, .ref (G.2.2 1042))])  (h : wX8_next_52 S k) : W p l e (rmF 1 21) s m args below meth c H locs 0 0 (MQ below (QcV G (injR SB) k) args s 0 0 (AG G)) (F0 m 52 ls []) := by
  refine lv_aload_n C.1.1 C.1.2.1 dX8_next_52 rfl (lv_at hl 0 rfl) ?_
  refine lv_aload_n C.1.1 C.1.2.1 dX8_next_53 rfl (lv_at hl 0 rfl) ?_
  refine y_getI C fl_X8_169 hw (ocr SB) rfl dX8_next_54 (fun v1 t1 => ?_)
  obtain ⟨S_2, e2⟩ : ∃ z : St, z = up S 0 6 (S 0 4) := ⟨_, rfl⟩
  have h := h S_2 e2
  refine y_putI C fl_X8_172 fp_8_6 hw hS (ocr SB) rfl t1 dX8_next_57 (fun H locs hw hS => ?_)
  have hw : Wd G ((injR SB) S_2) H := by rw [e2]; exact hw
  refine lv_aload_n C.1.1 C.1.2.1 dX8_next_60 rfl (lv_at hl 0 rfl) ?_
  refine y_getI C fl_X8_169 hw (ocr SB) rfl dX8_next_61 (fun v3 t3 => ?_)
  refine lv_aload_n C.1.1 C.1.2.1 dX8_next_64 rfl (lv_at hl 0 rfl) ?_
  refine y_getI C fl_X8_161 hw (ocr SB) rfl dX8_next_65 (fun v4 t4 => ?_)
  refine y_icmp_ne C t3 t4 dX8_next_68 (tgt := 77) (by decide) (fun c5 => ?_) (fun c5 => ?_)
  · have h := h.1 c5
    refine lv_aload_n C.1.1 C.1.2.1 dX8_next_77 rfl (lv_at hl 0 rfl) ?_
    refine y_getA C fl_X8_7 hw (ocr SB) rfl (o := 1) rfl dX8_next_78 ?_
    refine lv_aload_n C.1.1 C.1.2.1 dX8_next_81 rfl (lv_at hl 0 rfl) ?_
    refine y_getI C fl_X8_169 hw (ocr SB) rfl dX8_next_82 (fun v7 t7 => ?_)
    obtain ⟨b8, h⟩ := h
    refine y_bald C hw (acr_0 SB) t7 b8 dX8_next_85 (fun v8 t8 => ?_)
    obtain ⟨x_9, e9⟩ : ∃ z : Int, z = S_2 1 (S_2 0 4) := ⟨_, rfl⟩
    have h := h x_9 e9
    have t9 := t8.trans e9.symm
    refine lv_istore_n (lv' := [(1, .int v8), (0, .ref (G.2.2 1042))]) C.1.1 C.1.2.1 dX8_next_86 rfl hl (by decide) rfl (fun ls hl => ?_)
    refine lv_aload_n C.1.1 C.1.2.1 dX8_next_87 rfl (lv_at hl 1 rfl) ?_
    refine lv_aload_n C.1.1 C.1.2.1 dX8_next_88 rfl (lv_at hl 1 rfl) ?_
    refine y_getI C fl_X8_169 hw (ocr SB) rfl dX8_next_89 (fun v10 t10 => ?_)
    refine y_cVIp C (As := [.int v10]) (rest := []) ml_X8_178 (kX8_isLetter l G SB S_2 t10 h) (ocr SB) (T := TX8) (N := 60) rfl (by decide) ⟨(Nat.le_of_ble_eq_true rfl), (Nat.le_of_ble_eq_true rfl)⟩ hl.1 rfl rfl (Nat.le_of_ble_eq_true rfl) hw hS dX8_next_92 (fun v11 x_11 H locs t11 h hw hS => ?_)
    refine y_if_eq C t11 dX8_next_95 (tgt := 234) (by decide) (fun c12 => ?_) (fun c12 => ?_)
    · have h := h.1 c12
      refine lv_aload_n C.1.1 C.1.2.1 dX8_next_234 rfl (lv_at hl 1 rfl) ?_
      refine lv_aload_n C.1.1 C.1.2.1 dX8_next_235 rfl (lv_at hl 1 rfl) ?_
      refine y_getI C fl_X8_169 hw (ocr SB) rfl dX8_next_236 (fun v13 t13 => ?_)
      refine y_cVIp C (As := [.int v13]) (rest := []) ml_X8_186 (kX8_isFigure l G SB S_2 t13 h) (ocr SB) (T := TX8) (N := 60) rfl (by decide) ⟨(Nat.le_of_ble_eq_true rfl), (Nat.le_of_ble_eq_true rfl)⟩ hl.1 rfl rfl (Nat.le_of_ble_eq_true rfl) hw hS dX8_next_239 (fun v14 x_14 H locs t14 h hw hS => ?_)
      refine y_if_eq C t14 dX8_next_242 (tgt := 272) (by decide) (fun c15 => ?_) (fun c15 => ?_)
      · have h := h.1 c15
        refine lv_iload_n C.1.1 C.1.2.1 dX8_next_272 rfl (lv_at hl 0 rfl) ?_
        refine y_bipush C dX8_next_273 ⟨by decide, by decide⟩ (fun v16 t16 => ?_)
        refine y_icmp_eq C t9 t16 dX8_next_275 (tgt := 326) (by decide) (fun c17 => ?_) (fun c17 => ?_)
        · have h := h.1 c17
          exact uX8_next_326 C hw hS t9 (lv_sub hl [1, 0] rfl)  h
        · have h := h.2 c17
          refine lv_iload_n C.1.1 C.1.2.1 dX8_next_278 rfl (lv_at hl 0 rfl) ?_
          refine y_bipush C dX8_next_279 ⟨by decide, by decide⟩ (fun v18 t18 => ?_)
          refine y_icmp_eq C t9 t18 dX8_next_281 (tgt := 326) (by decide) (fun c19 => ?_) (fun c19 => ?_)
          · have h := h.1 c19
            exact uX8_next_326 C hw hS t9 (lv_sub hl [1, 0] rfl)  h
          · have h := h.2 c19
            refine lv_iload_n C.1.1 C.1.2.1 dX8_next_284 rfl (lv_at hl 0 rfl) ?_
            refine y_bipush C dX8_next_285 ⟨by decide, by decide⟩ (fun v20 t20 => ?_)
            refine y_icmp_eq C t9 t20 dX8_next_287 (tgt := 326) (by decide) (fun c21 => ?_) (fun c21 => ?_)
            · have h := h.1 c21
              exact uX8_next_326 C hw hS t9 (lv_sub hl [1, 0] rfl)  h
            · have h := h.2 c21
              refine lv_iload_n C.1.1 C.1.2.1 dX8_next_290 rfl (lv_at hl 0 rfl) ?_
              refine y_bipush C dX8_next_291 ⟨by decide, by decide⟩ (fun v22 t22 => ?_)
              refine y_icmp_eq C t9 t22 dX8_next_293 (tgt := 326) (by decide) (fun c23 => ?_) (fun c23 => ?_)
              · have h := h.1 c23
                exact uX8_next_326 C hw hS t9 (lv_sub hl [1, 0] rfl)  h
              · have h := h.2 c23
                refine lv_iload_n C.1.1 C.1.2.1 dX8_next_296 rfl (lv_at hl 0 rfl) ?_
                refine y_bipush C dX8_next_297 ⟨by decide, by decide⟩ (fun v24 t24 => ?_)
                refine y_icmp_eq C t9 t24 dX8_next_299 (tgt := 326) (by decide) (fun c25 => ?_) (fun c25 => ?_)
                · have h := h.1 c25
                  exact uX8_next_326 C hw hS t9 (lv_sub hl [1, 0] rfl)  h
                · have h := h.2 c25
                  refine lv_iload_n C.1.1 C.1.2.1 dX8_next_302 rfl (lv_at hl 0 rfl) ?_
                  refine y_bipush C dX8_next_303 ⟨by decide, by decide⟩ (fun v26 t26 => ?_)
                  refine y_icmp_eq C t9 t26 dX8_next_305 (tgt := 326) (by decide) (fun c27 => ?_) (fun c27 => ?_)
                  · have h := h.1 c27
                    exact uX8_next_326 C hw hS t9 (lv_sub hl [1, 0] rfl)  h
                  · have h := h.2 c27
                    refine lv_iload_n C.1.1 C.1.2.1 dX8_next_308 rfl (lv_at hl 0 rfl) ?_
                    refine y_bipush C dX8_next_309 ⟨by decide, by decide⟩ (fun v28 t28 => ?_)
                    refine y_icmp_eq C t9 t28 dX8_next_311 (tgt := 326) (by decide) (fun c29 => ?_) (fun c29 => ?_)
                    · have h := h.1 c29
                      exact uX8_next_326 C hw hS t9 (lv_sub hl [1, 0] rfl)  h
                    · have h := h.2 c29
                      refine lv_iload_n C.1.1 C.1.2.1 dX8_next_314 rfl (lv_at hl 0 rfl) ?_
                      refine y_bipush C dX8_next_315 ⟨by decide, by decide⟩ (fun v30 t30 => ?_)
                      refine y_icmp_eq C t9 t30 dX8_next_317 (tgt := 326) (by decide) (fun c31 => ?_) (fun c31 => ?_)
                      · have h := h.1 c31
                        exact uX8_next_326 C hw hS t9 (lv_sub hl [1, 0] rfl)  h
                      · have h := h.2 c31
                        refine lv_iload_n C.1.1 C.1.2.1 dX8_next_320 rfl (lv_at hl 0 rfl) ?_
                        refine y_bipush C dX8_next_321 ⟨by decide, by decide⟩ (fun v32 t32 => ?_)
                        refine y_icmp_ne C t9 t32 dX8_next_323 (tgt := 330) (by decide) (fun c33 => ?_) (fun c33 => ?_)
                        · have h := h.1 c33
                          refine y_iconst C dX8_next_330 ⟨by decide, by decide⟩ (fun v34 t34 => ?_)
                          exact uX8_next_331 C hw hS t9 t34 (lv_sub hl [1, 0] rfl)  h
                        · have h := h.2 c33
                          exact uX8_next_326 C hw hS t9 (lv_sub hl [1, 0] rfl)  h
      · have h := h.2 c15
        refine lv_aload_n C.1.1 C.1.2.1 dX8_next_245 rfl (lv_at hl 1 rfl) ?_
        refine lv_iload_n C.1.1 C.1.2.1 dX8_next_246 rfl (lv_at hl 0 rfl) ?_
        refine y_bipush C dX8_next_247 ⟨by decide, by decide⟩ (fun v35 t35 => ?_)
        refine y_isub C t9 t35 dX8_next_249 (fun v36 t36 => ?_)
        refine y_i2l C t36 dX8_next_250 (fun v37 t37 => ?_)
        obtain ⟨S_38, e38⟩ : ∃ z : St, z = up S_2 0 7 (w32 (x_9 - 48)) := ⟨_, rfl⟩
        have h := h S_38 e38
        refine y_putJ C fl_X8_182 fp_8_7 hw hS (ocr SB) rfl t37 dX8_next_251 (fun H locs hw hS => ?_)
        have hw : Wd G ((injR SB) S_38) H := by rw [e38]; exact hw
        refine lv_aload_n C.1.1 C.1.2.1 dX8_next_254 rfl (lv_at hl 1 rfl) ?_
        refine y_iconst C dX8_next_255 ⟨by decide, by decide⟩ (fun v39 t39 => ?_)
        obtain ⟨S_40, e40⟩ : ∃ z : St, z = up S_38 0 5 3 := ⟨_, rfl⟩
        have h := h S_40 e40
        refine y_putI C fl_X8_175 fp_8_5 hw hS (ocr SB) rfl t39 dX8_next_256 (fun H locs hw hS => ?_)
        have hw : Wd G ((injR SB) S_40) H := by rw [e40]; exact hw
        refine lv_aload_n C.1.1 C.1.2.1 dX8_next_259 rfl (lv_at hl 1 rfl) ?_
        refine lv_dup C.1.1 C.1.2.1 dX8_next_260 rfl ?_
        refine y_getI C fl_X8_169 hw (ocr SB) rfl dX8_next_261 (fun v41 t41 => ?_)
        refine y_iconst C dX8_next_264 ⟨by decide, by decide⟩ (fun v42 t42 => ?_)
        refine y_iadd C t41 t42 dX8_next_265 (fun v43 t43 => ?_)
        obtain ⟨S_44, e44⟩ : ∃ z : St, z = up S_40 0 4 (w32 (S_40 0 4 + 1)) := ⟨_, rfl⟩
        have h := h S_44 e44
        refine y_putI C fl_X8_169 fp_8_4 hw hS (ocr SB) rfl t43 dX8_next_266 (fun H locs hw hS => ?_)
        have hw : Wd G ((injR SB) S_44) H := by rw [e44]; exact hw
        refine lv_goto (tgt := 355) C.1.1 C.1.2.1 dX8_next_269 (by decide) ?_
        exact y_vret C hw hS h dX8_next_355
    · have h := h.2 c12
      refine lv_aload_n C.1.1 C.1.2.1 dX8_next_98 rfl (lv_at hl 1 rfl) ?_
      refine y_lconst0 C dX8_next_99 (fun v45 t45 => ?_)
      obtain ⟨S_46, e46⟩ : ∃ z : St, z = up S_2 0 7 0 := ⟨_, rfl⟩
      have h := h S_46 e46
      refine y_putJ C fl_X8_182 fp_8_7 hw hS (ocr SB) rfl t45 dX8_next_100 (fun H locs hw hS => ?_)
      have hw : Wd G ((injR SB) S_46) H := by rw [e46]; exact hw
      refine y_iconst C dX8_next_103 ⟨by decide, by decide⟩ (fun v47 t47 => ?_)
      refine lv_istore_n (lv' := [(2, .int v47), (1, .int v8), (0, .ref (G.2.2 1042))]) C.1.1 C.1.2.1 dX8_next_104 rfl hl (by decide) rfl (fun ls hl => ?_)
      exact uX8_next_105 C hw hS t47 (lv_sub hl [2, 0] rfl)  h
  · have h := h.2 c5
    refine lv_aload_n C.1.1 C.1.2.1 dX8_next_71 rfl (lv_at hl 0 rfl) ?_
    refine y_iconst C dX8_next_72 ⟨by decide, by decide⟩ (fun v48 t48 => ?_)
    obtain ⟨S_49, e49⟩ : ∃ z : St, z = up S_2 0 5 0 := ⟨_, rfl⟩
    have h := h S_49 e49
    refine y_putI C fl_X8_175 fp_8_5 hw hS (ocr SB) rfl t48 dX8_next_73 (fun H locs hw hS => ?_)
    have hw : Wd G ((injR SB) S_49) H := by rw [e49]; exact hw
    exact y_vret C hw hS h dX8_next_76
set_option maxHeartbeats 4000000 in
set_option maxRecDepth 10000 in
theorem uX8_next_0_b {p : Program} {l : Launch} {e : Env} {s : State} {m : MethodId} {args : Array Value} {below : List Frame} {meth : Method} {c : Code} {G : GG} {SB : St} (C : Cx p s m args meth c G RX8 cX8_next 4 none) {S : St} {H : Heap} {locs : List Loc} {ls : Array Slot}  {P0 : St → Prop} {k : St → Prop} (hw : Wd G ((injR SB) S) H) (hS : va_S (AG G) s.heap H locs)  (hl : lv_has ls 4 [(0, .ref (G.2.2 1042))])  (hP0 : ∀ {H : Heap} {locs : List Loc} {ls : Array Slot} {Sy : St} , Wd G ((injR SB) Sy) H → va_S (AG G) s.heap H locs → lv_has ls 4 [(0, .ref (G.2.2 1042))] → P0 Sy → W p l e (rmF 1 21) s m args below meth c H locs 0 0 (MQ below (QcV G (injR SB) k) args s 0 0 (AG G)) (F0 m 0 ls [])) (h : wX8_next_0_b S P0 k) : W p l e (rmF 1 21) s m args below meth c H locs 0 0 (MQ below (QcV G (injR SB) k) args s 0 0 (AG G)) (F0 m 0 ls []) := by
  refine lv_aload_n C.1.1 C.1.2.1 dX8_next_0 rfl (lv_at hl 0 rfl) ?_
  refine y_getI C fl_X8_169 hw (ocr SB) rfl dX8_next_1 (fun v1 t1 => ?_)
  refine lv_aload_n C.1.1 C.1.2.1 dX8_next_4 rfl (lv_at hl 0 rfl) ?_
  refine y_getI C fl_X8_161 hw (ocr SB) rfl dX8_next_5 (fun v2 t2 => ?_)
  refine y_icmp_ge C t1 t2 dX8_next_8 (tgt := 52) (by decide) (fun c3 => ?_) (fun c3 => ?_)
  · have h := h.1 c3
    exact uX8_next_52 C hw hS  (lv_sub hl [0] rfl)  h
  · have h := h.2 c3
    refine lv_aload_n C.1.1 C.1.2.1 dX8_next_11 rfl (lv_at hl 0 rfl) ?_
    refine y_getA C fl_X8_7 hw (ocr SB) rfl (o := 1) rfl dX8_next_12 ?_
    refine lv_aload_n C.1.1 C.1.2.1 dX8_next_15 rfl (lv_at hl 0 rfl) ?_
    refine y_getI C fl_X8_169 hw (ocr SB) rfl dX8_next_16 (fun v5 t5 => ?_)
    obtain ⟨b6, h⟩ := h
    refine y_bald C hw (acr_0 SB) t5 b6 dX8_next_19 (fun v6 t6 => ?_)
    refine y_bipush C dX8_next_20 ⟨by decide, by decide⟩ (fun v7 t7 => ?_)
    refine y_icmp_eq C t6 t7 dX8_next_22 (tgt := 39) (by decide) (fun c8 => ?_) (fun c8 => ?_)
    · have h := h.1 c8
      exact uX8_next_39 C hw hS  (lv_sub hl [0] rfl) hP0 h
    · have h := h.2 c8
      refine lv_aload_n C.1.1 C.1.2.1 dX8_next_25 rfl (lv_at hl 0 rfl) ?_
      refine y_getA C fl_X8_7 hw (ocr SB) rfl (o := 1) rfl dX8_next_26 ?_
      refine lv_aload_n C.1.1 C.1.2.1 dX8_next_29 rfl (lv_at hl 0 rfl) ?_
      refine y_getI C fl_X8_169 hw (ocr SB) rfl dX8_next_30 (fun v10 t10 => ?_)
      obtain ⟨b11, h⟩ := h
      refine y_bald C hw (acr_0 SB) t10 b11 dX8_next_33 (fun v11 t11 => ?_)
      refine y_bipush C dX8_next_34 ⟨by decide, by decide⟩ (fun v12 t12 => ?_)
      refine y_icmp_ne C t11 t12 dX8_next_36 (tgt := 52) (by decide) (fun c13 => ?_) (fun c13 => ?_)
      · have h := h.1 c13
        exact uX8_next_52 C hw hS  (lv_sub hl [0] rfl)  h
      · have h := h.2 c13
        exact uX8_next_39 C hw hS  (lv_sub hl [0] rfl) hP0 h
set_option maxHeartbeats 4000000 in
set_option maxRecDepth 10000 in
theorem uX8_next_0 {p : Program} {l : Launch} {e : Env} {s : State} {m : MethodId} {args : Array Value} {below : List Frame} {meth : Method} {c : Code} {G : GG} {SB : St} (C : Cx p s m args meth c G RX8 cX8_next 4 none) {S : St} {H : Heap} {locs : List Loc} {ls : Array Slot}  {k : St → Prop} (hw : Wd G ((injR SB) S) H) (hS : va_S (AG G) s.heap H locs)  (hl : lv_has ls 4 [(0, .ref (G.2.2 1042))])  (h : wX8_next_0 S k) : W p l e (rmF 1 21) s m args below meth c H locs 0 0 (MQ below (QcV G (injR SB) k) args s 0 0 (AG G)) (F0 m 0 ls []) := by
  have key : ∀ (n : Nat) {H : Heap} {locs : List Loc} {ls : Array Slot} {S : St} , Wd G ((injR SB) S) H → va_S (AG G) s.heap H locs → lv_has ls 4 [(0, .ref (G.2.2 1042))] → itP (fun (P : St → Prop) (a : St) => wX8_next_0_b a (fun b0 => P (b0)) k) n (S) → W p l e (rmF 1 21) s m args below meth c H locs 0 0 (MQ below (QcV G (injR SB) k) args s 0 0 (AG G)) (F0 m 0 ls []) := by
    intro n
    induction n with
    | zero => intro H locs ls S hw hS hl h; exact h.elim
    | succ n ih =>
      intro H locs ls S hw hS hl h
      exact uX8_next_0_b C hw hS  hl  (P0 := fun b0 => itP _ n (b0)) (fun hw hS hl h => ih hw hS hl h) h
  obtain ⟨n, hn⟩ := h
  exact key n  hw hS hl hn
theorem kX8_next (l : Launch) (G : GG) (SB S : St)  {k : St → Prop} (h : wX8_next S k) : CnV l yX8_next cX8_next 4 none 1 21 G (injR SB) [.ref (G.2.2 1042)] S k :=
  cn_body (by decide +kernel) (Nat.le_of_ble_eq_true rfl) (fun p e s m args below meth c ls C hw hl => uX8_next_0 C hw va_S.rf  (lv_sub hl [0] rfl) h)
set_option maxHeartbeats 4000000 in
set_option maxRecDepth 10000 in
theorem uX8_feed_20_b {p : Program} {l : Launch} {e : Env} {s : State} {m : MethodId} {args : Array Value} {below : List Frame} {meth : Method} {c : Code} {G : GG} {SB : St} (C : Cx p s m args meth c G RX8 cX8_feed 8 (some .int)) {S : St} {H : Heap} {locs : List Loc} {ls : Array Slot}  {P20 : Int → St → Prop} {k : Int → St → Prop} (hw : Wd G ((injR SB) S) H) (hS : va_S (AG G) s.heap H locs) {xv1 : Int32} {x1 : Int} (xt1 : xv1.toInt = x1) {xv2 : Int32} {x2 : Int} (xt2 : xv2.toInt = x2) {xv3 : Int32} {x3 : Int} (xt3 : xv3.toInt = x3) {xv4 : Int32} {x4 : Int} (xt4 : xv4.toInt = x4) {xv5 : Int32} {x5 : Int} (xt5 : xv5.toInt = x5) {xv6 : Int32} {x6 : Int} (xt6 : xv6.toInt = x6) (hl : lv_has ls 8 [(0, .ref (G.2.2 1042)), (1, .int xv1), (2, .int xv2), (3, .int xv3), (4, .int xv4), (5, .int xv5), (6, .int xv6)])  (hP20 : ∀ {H : Heap} {locs : List Loc} {ls : Array Slot} {Sy : St} {yv6 : Int32} {y6 : Int}, yv6.toInt = y6 → Wd G ((injR SB) Sy) H → va_S (AG G) s.heap H locs → lv_has ls 8 [(0, .ref (G.2.2 1042)), (1, .int xv1), (2, .int xv2), (3, .int xv3), (4, .int xv4), (5, .int xv5), (6, .int yv6)] → P20 y6 Sy → W p l e (rmF 0 0) s m args below meth c H locs 0 0 (MQ below (QcI G (injR SB) k) args s 0 0 (AG G)) (F0 m 20 ls [])) (h : wX8_feed_20_b S x1 x2 x3 x4 x5 x6 P20 k) : W p l e (rmF 0 0) s m args below meth c H locs 0 0 (MQ below (QcI G (injR SB) k) args s 0 0 (AG G)) (F0 m 20 ls []) := by
  refine lv_iload C.1.1 C.1.2.1 dX8_feed_20 (lv_at hl 6 rfl) ?_
  refine y_if_lt C xt6 dX8_feed_22 (tgt := 118) (by decide) (fun c1 => ?_) (fun c1 => ?_)
  · have h := h.1 c1
    refine lv_aload_n C.1.1 C.1.2.1 dX8_feed_118 rfl (lv_at hl 0 rfl) ?_
    refine lv_dup C.1.1 C.1.2.1 dX8_feed_119 rfl ?_
    refine y_getI C fl_X8_161 hw (ocr SB) rfl dX8_feed_120 (fun v2 t2 => ?_)
    refine y_bipush C dX8_feed_123 ⟨by decide, by decide⟩ (fun v3 t3 => ?_)
    refine y_iadd C t2 t3 dX8_feed_125 (fun v4 t4 => ?_)
    obtain ⟨S_5, e5⟩ : ∃ z : St, z = up S 0 1 (w32 (S 0 1 + 20)) := ⟨_, rfl⟩
    have h := h S_5 e5
    refine y_putI C fl_X8_161 fp_8_1 hw hS (ocr SB) rfl t4 dX8_feed_126 (fun H locs hw hS => ?_)
    have hw : Wd G ((injR SB) S_5) H := by rw [e5]; exact hw
    refine lv_aload_n C.1.1 C.1.2.1 dX8_feed_129 rfl (lv_at hl 0 rfl) ?_
    refine y_getI C fl_X8_161 hw (ocr SB) rfl dX8_feed_130 (fun v6 t6 => ?_)
    exact y_iret C hw hS t6 h dX8_feed_133
  · have h := h.2 c1
    refine lv_aload_n C.1.1 C.1.2.1 dX8_feed_25 rfl (lv_at hl 0 rfl) ?_
    refine y_getI C fl_X8_161 hw (ocr SB) rfl dX8_feed_26 (fun v7 t7 => ?_)
    refine y_iconst C dX8_feed_29 ⟨by decide, by decide⟩ (fun v8 t8 => ?_)
    refine y_iadd C t7 t8 dX8_feed_30 (fun v9 t9 => ?_)
    refine lv_iload C.1.1 C.1.2.1 dX8_feed_31 (lv_at hl 6 rfl) ?_
    refine y_bipush C dX8_feed_33 ⟨by decide, by decide⟩ (fun v10 t10 => ?_)
    refine y_idiv C xt6 t10 (by decide) dX8_feed_35 (fun v11 t11 => ?_)
    refine y_isub C t9 t11 dX8_feed_36 (fun v12 t12 => ?_)
    obtain ⟨x_13, e13⟩ : ∃ z : Int, z = w32 ((w32 (S 0 1 + 3)) - (div32 x6 8)) := ⟨_, rfl⟩
    have h := h x_13 e13
    have t13 := t12.trans e13.symm
    refine lv_istore (lv' := [(7, .int v12), (0, .ref (G.2.2 1042)), (1, .int xv1), (2, .int xv2), (3, .int xv3), (4, .int xv4), (5, .int xv5), (6, .int xv6)]) C.1.1 C.1.2.1 dX8_feed_37 hl (by decide) rfl (fun ls hl => ?_)
    refine lv_aload_n C.1.1 C.1.2.1 dX8_feed_39 rfl (lv_at hl 1 rfl) ?_
    refine y_getA C fl_X8_7 hw (ocr SB) rfl (o := 1) rfl dX8_feed_40 ?_
    refine lv_iload C.1.1 C.1.2.1 dX8_feed_43 (lv_at hl 0 rfl) ?_
    refine lv_iload_n C.1.1 C.1.2.1 dX8_feed_45 rfl (lv_at hl 2 rfl) ?_
    refine lv_iload C.1.1 C.1.2.1 dX8_feed_46 (lv_at hl 7 rfl) ?_
    refine y_ishr C xt1 xt6 dX8_feed_48 (fun v15 t15 => ?_)
    refine y_i2b C t15 dX8_feed_49 (fun v16 t16 => ?_)
    obtain ⟨b17, h⟩ := h
    obtain ⟨S_17, e17⟩ : ∃ z : St, z = up S 1 x_13 (sb8 (sb8 (shr32 x1 x6))) := ⟨_, rfl⟩
    have h := h S_17 e17
    refine y_bast C hw hS (acr_0 SB) t13 t16 b17 dX8_feed_50 (fun H locs hw hS => ?_)
    have hw : Wd G ((injR SB) S_17) H := by rw [e17]; exact hw
    refine lv_aload_n C.1.1 C.1.2.1 dX8_feed_51 rfl (lv_at hl 1 rfl) ?_
    refine y_getA C fl_X8_7 hw (ocr SB) rfl (o := 1) rfl dX8_feed_52 ?_
    refine lv_iload C.1.1 C.1.2.1 dX8_feed_55 (lv_at hl 0 rfl) ?_
    refine y_iconst C dX8_feed_57 ⟨by decide, by decide⟩ (fun v19 t19 => ?_)
    refine y_iadd C t13 t19 dX8_feed_58 (fun v20 t20 => ?_)
    refine lv_iload_n C.1.1 C.1.2.1 dX8_feed_59 rfl (lv_at hl 3 rfl) ?_
    refine lv_iload C.1.1 C.1.2.1 dX8_feed_60 (lv_at hl 7 rfl) ?_
    refine y_ishr C xt2 xt6 dX8_feed_62 (fun v21 t21 => ?_)
    refine y_i2b C t21 dX8_feed_63 (fun v22 t22 => ?_)
    obtain ⟨b23, h⟩ := h
    obtain ⟨S_23, e23⟩ : ∃ z : St, z = up S_17 1 (w32 (x_13 + 4)) (sb8 (sb8 (shr32 x2 x6))) := ⟨_, rfl⟩
    have h := h S_23 e23
    refine y_bast C hw hS (acr_0 SB) t20 t22 b23 dX8_feed_64 (fun H locs hw hS => ?_)
    have hw : Wd G ((injR SB) S_23) H := by rw [e23]; exact hw
    refine lv_aload_n C.1.1 C.1.2.1 dX8_feed_65 rfl (lv_at hl 1 rfl) ?_
    refine y_getA C fl_X8_7 hw (ocr SB) rfl (o := 1) rfl dX8_feed_66 ?_
    refine lv_iload C.1.1 C.1.2.1 dX8_feed_69 (lv_at hl 0 rfl) ?_
    refine y_bipush C dX8_feed_71 ⟨by decide, by decide⟩ (fun v25 t25 => ?_)
    refine y_iadd C t13 t25 dX8_feed_73 (fun v26 t26 => ?_)
    refine lv_iload_n C.1.1 C.1.2.1 dX8_feed_74 rfl (lv_at hl 4 rfl) ?_
    refine lv_iload C.1.1 C.1.2.1 dX8_feed_75 (lv_at hl 7 rfl) ?_
    refine y_ishr C xt3 xt6 dX8_feed_77 (fun v27 t27 => ?_)
    refine y_i2b C t27 dX8_feed_78 (fun v28 t28 => ?_)
    obtain ⟨b29, h⟩ := h
    obtain ⟨S_29, e29⟩ : ∃ z : St, z = up S_23 1 (w32 (x_13 + 8)) (sb8 (sb8 (shr32 x3 x6))) := ⟨_, rfl⟩
    have h := h S_29 e29
    refine y_bast C hw hS (acr_0 SB) t26 t28 b29 dX8_feed_79 (fun H locs hw hS => ?_)
    have hw : Wd G ((injR SB) S_29) H := by rw [e29]; exact hw
    refine lv_aload_n C.1.1 C.1.2.1 dX8_feed_80 rfl (lv_at hl 1 rfl) ?_
    refine y_getA C fl_X8_7 hw (ocr SB) rfl (o := 1) rfl dX8_feed_81 ?_
    refine lv_iload C.1.1 C.1.2.1 dX8_feed_84 (lv_at hl 0 rfl) ?_
    refine y_bipush C dX8_feed_86 ⟨by decide, by decide⟩ (fun v31 t31 => ?_)
    refine y_iadd C t13 t31 dX8_feed_88 (fun v32 t32 => ?_)
    refine lv_iload C.1.1 C.1.2.1 dX8_feed_89 (lv_at hl 5 rfl) ?_
    refine lv_iload C.1.1 C.1.2.1 dX8_feed_91 (lv_at hl 7 rfl) ?_
    refine y_ishr C xt4 xt6 dX8_feed_93 (fun v33 t33 => ?_)
    refine y_i2b C t33 dX8_feed_94 (fun v34 t34 => ?_)
    obtain ⟨b35, h⟩ := h
    obtain ⟨S_35, e35⟩ : ∃ z : St, z = up S_29 1 (w32 (x_13 + 12)) (sb8 (sb8 (shr32 x4 x6))) := ⟨_, rfl⟩
    have h := h S_35 e35
    refine y_bast C hw hS (acr_0 SB) t32 t34 b35 dX8_feed_95 (fun H locs hw hS => ?_)
    have hw : Wd G ((injR SB) S_35) H := by rw [e35]; exact hw
    refine lv_aload_n C.1.1 C.1.2.1 dX8_feed_96 rfl (lv_at hl 1 rfl) ?_
    refine y_getA C fl_X8_7 hw (ocr SB) rfl (o := 1) rfl dX8_feed_97 ?_
    refine lv_iload C.1.1 C.1.2.1 dX8_feed_100 (lv_at hl 0 rfl) ?_
    refine y_bipush C dX8_feed_102 ⟨by decide, by decide⟩ (fun v37 t37 => ?_)
    refine y_iadd C t13 t37 dX8_feed_104 (fun v38 t38 => ?_)
    refine lv_iload C.1.1 C.1.2.1 dX8_feed_105 (lv_at hl 6 rfl) ?_
    refine lv_iload C.1.1 C.1.2.1 dX8_feed_107 (lv_at hl 7 rfl) ?_
    refine y_ishr C xt5 xt6 dX8_feed_109 (fun v39 t39 => ?_)
    refine y_i2b C t39 dX8_feed_110 (fun v40 t40 => ?_)
    obtain ⟨b41, h⟩ := h
    obtain ⟨S_41, e41⟩ : ∃ z : St, z = up S_35 1 (w32 (x_13 + 16)) (sb8 (sb8 (shr32 x5 x6))) := ⟨_, rfl⟩
    have h := h S_41 e41
    refine y_bast C hw hS (acr_0 SB) t38 t40 b41 dX8_feed_111 (fun H locs hw hS => ?_)
    have hw : Wd G ((injR SB) S_41) H := by rw [e41]; exact hw
    obtain ⟨x_42, e42⟩ : ∃ z : Int, z = w32 (x6 + (-8)) := ⟨_, rfl⟩
    have h := h x_42 e42
    obtain ⟨v42, t42, g42⟩ : ∃ z : Int32, z.toInt = x_42 ∧ xv6 + Int32.ofInt (-8) = z := ⟨_, (ti_inc xt6 ⟨by decide, by decide⟩).trans e42.symm, rfl⟩
    refine lv_iinc (v := v42) (lv' := [(6, .int v42), (7, .int v12), (0, .ref (G.2.2 1042)), (1, .int xv1), (2, .int xv2), (3, .int xv3), (4, .int xv4), (5, .int xv5)]) C.1.1 C.1.2.1 dX8_feed_112 hl (k := 7) rfl g42 (by decide) rfl (fun ls hl => ?_)
    refine lv_goto (tgt := 20) C.1.1 C.1.2.1 dX8_feed_115 (by decide) ?_
    exact hP20 t42 hw hS (lv_sub hl [2, 3, 4, 5, 6, 7, 0] rfl) h
set_option maxHeartbeats 4000000 in
set_option maxRecDepth 10000 in
theorem uX8_feed_20 {p : Program} {l : Launch} {e : Env} {s : State} {m : MethodId} {args : Array Value} {below : List Frame} {meth : Method} {c : Code} {G : GG} {SB : St} (C : Cx p s m args meth c G RX8 cX8_feed 8 (some .int)) {S : St} {H : Heap} {locs : List Loc} {ls : Array Slot}  {k : Int → St → Prop} (hw : Wd G ((injR SB) S) H) (hS : va_S (AG G) s.heap H locs) {xv1 : Int32} {x1 : Int} (xt1 : xv1.toInt = x1) {xv2 : Int32} {x2 : Int} (xt2 : xv2.toInt = x2) {xv3 : Int32} {x3 : Int} (xt3 : xv3.toInt = x3) {xv4 : Int32} {x4 : Int} (xt4 : xv4.toInt = x4) {xv5 : Int32} {x5 : Int} (xt5 : xv5.toInt = x5) {xv6 : Int32} {x6 : Int} (xt6 : xv6.toInt = x6) (hl : lv_has ls 8 [(0, .ref (G.2.2 1042)), (1, .int xv1), (2, .int xv2), (3, .int xv3), (4, .int xv4), (5, .int xv5), (6, .int xv6)])  (h : wX8_feed_20 S x1 x2 x3 x4 x5 x6 k) : W p l e (rmF 0 0) s m args below meth c H locs 0 0 (MQ below (QcI G (injR SB) k) args s 0 0 (AG G)) (F0 m 20 ls []) := by
  have key : ∀ (n : Nat) {H : Heap} {locs : List Loc} {ls : Array Slot} {S : St} {xv6 : Int32} {x6 : Int}, xv6.toInt = x6 → Wd G ((injR SB) S) H → va_S (AG G) s.heap H locs → lv_has ls 8 [(0, .ref (G.2.2 1042)), (1, .int xv1), (2, .int xv2), (3, .int xv3), (4, .int xv4), (5, .int xv5), (6, .int xv6)] → itP (fun (P : Int × St → Prop) (a : Int × St) => wX8_feed_20_b a.2 x1 x2 x3 x4 x5 a.1 (fun b0 b1 => P (b0, b1)) k) n (x6, S) → W p l e (rmF 0 0) s m args below meth c H locs 0 0 (MQ below (QcI G (injR SB) k) args s 0 0 (AG G)) (F0 m 20 ls []) := by
    intro n
    induction n with
    | zero => intro H locs ls S xv6 x6 xt6 hw hS hl h; exact h.elim
    | succ n ih =>
      intro H locs ls S xv6 x6 xt6 hw hS hl h
      exact uX8_feed_20_b C hw hS xt1 xt2 xt3 xt4 xt5 xt6 hl  (P20 := fun b0 b1 => itP _ n (b0, b1)) (fun q0 hw hS hl h => ih q0 hw hS hl h) h
  obtain ⟨n, hn⟩ := h
  exact key n xt6 hw hS hl hn
set_option maxHeartbeats 4000000 in
set_option maxRecDepth 10000 in
theorem uX8_feed_0 {p : Program} {l : Launch} {e : Env} {s : State} {m : MethodId} {args : Array Value} {below : List Frame} {meth : Method} {c : Code} {G : GG} {SB : St} (C : Cx p s m args meth c G RX8 cX8_feed 8 (some .int)) {S : St} {H : Heap} {locs : List Loc} {ls : Array Slot}  {k : Int → St → Prop} (hw : Wd G ((injR SB) S) H) (hS : va_S (AG G) s.heap H locs) {xv1 : Int32} {x1 : Int} (xt1 : xv1.toInt = x1) {xv2 : Int32} {x2 : Int} (xt2 : xv2.toInt = x2) {xv3 : Int32} {x3 : Int} (xt3 : xv3.toInt = x3) {xv4 : Int32} {x4 : Int} (xt4 : xv4.toInt = x4) {xv5 : Int32} {x5 : Int} (xt5 : xv5.toInt = x5) (hl : lv_has ls 8 [(0, .ref (G.2.2 1042)), (1, .int xv1), (2, .int xv2), (3, .int xv3), (4, .int xv4), (5, .int xv5)])  (h : wX8_feed_0 S x1 x2 x3 x4 x5 k) : W p l e (rmF 0 0) s m args below meth c H locs 0 0 (MQ below (QcI G (injR SB) k) args s 0 0 (AG G)) (F0 m 0 ls []) := by
  refine lv_aload_n C.1.1 C.1.2.1 dX8_feed_0 rfl (lv_at hl 0 rfl) ?_
  refine y_getI C fl_X8_161 hw (ocr SB) rfl dX8_feed_1 (fun v1 t1 => ?_)
  refine y_bipush C dX8_feed_4 ⟨by decide, by decide⟩ (fun v2 t2 => ?_)
  refine y_iadd C t1 t2 dX8_feed_6 (fun v3 t3 => ?_)
  refine y_sipush C dX8_feed_7 ⟨by decide, by decide⟩ (fun v4 t4 => ?_)
  refine y_icmp_le C t3 t4 dX8_feed_10 (tgt := 16) (by decide) (fun c5 => ?_) (fun c5 => ?_)
  · have h := h.1 c5
    refine y_bipush C dX8_feed_16 ⟨by decide, by decide⟩ (fun v6 t6 => ?_)
    refine lv_istore (lv' := [(6, .int v6), (0, .ref (G.2.2 1042)), (1, .int xv1), (2, .int xv2), (3, .int xv3), (4, .int xv4), (5, .int xv5)]) C.1.1 C.1.2.1 dX8_feed_18 hl (by decide) rfl (fun ls hl => ?_)
    exact uX8_feed_20 C hw hS xt1 xt2 xt3 xt4 xt5 t6 (lv_sub hl [1, 2, 3, 4, 5, 6, 0] rfl)  h
  · have h := h.2 c5
    refine y_bipush C dX8_feed_13 ⟨by decide, by decide⟩ (fun v7 t7 => ?_)
    exact y_iret C hw hS t7 h dX8_feed_15
theorem kX8_feed (l : Launch) (G : GG) (SB S : St) {xv1 : Int32} {x1 : Int} (xt1 : xv1.toInt = x1) {xv2 : Int32} {x2 : Int} (xt2 : xv2.toInt = x2) {xv3 : Int32} {x3 : Int} (xt3 : xv3.toInt = x3) {xv4 : Int32} {x4 : Int} (xt4 : xv4.toInt = x4) {xv5 : Int32} {x5 : Int} (xt5 : xv5.toInt = x5) {k : Int → St → Prop} (h : wX8_feed S x1 x2 x3 x4 x5 k) : CnI l yX8_feed cX8_feed 8 (some .int) 0 0 G (injR SB) [.ref (G.2.2 1042), .int xv1, .int xv2, .int xv3, .int xv4, .int xv5] S k :=
  cn_body (by decide +kernel) (Nat.le_of_ble_eq_true rfl) (fun p e s m args below meth c ls C hw hl => uX8_feed_0 C hw va_S.rf xt1 xt2 xt3 xt4 xt5 (lv_sub hl [0, 1, 2, 3, 4, 5] rfl) h)
set_option maxHeartbeats 4000000 in
set_option maxRecDepth 10000 in
theorem uX7_isType_0 {p : Program} {l : Launch} {e : Env} {s : State} {m : MethodId} {args : Array Value} {below : List Frame} {meth : Method} {c : Code} {G : GG} {SB : St} (C : Cx p s m args meth c G RX7 cX7_isType 2 (some .boolean)) {S : St} {H : Heap} {locs : List Loc} {ls : Array Slot}  {k : Int → Prop} (hw : Wd G ((injC SB) S) H) (hS : va_S (AG G) s.heap H locs) {xv1 : Int32} {x1 : Int} (xt1 : xv1.toInt = x1) (hl : lv_has ls 2 [(0, .ref (G.2.2 0)), (1, .int xv1)])  (h : wX7_isType_0 S x1 k) : W p l e (rmF 0 0) s m args below meth c H locs 0 0 (MQ below (QcI G (injC SB) (fun r u => k r ∧ u = S)) args s 0 0 (AG G)) (F0 m 0 ls []) := by
  refine lv_iload_n C.1.1 C.1.2.1 dX7_isType_0 rfl (lv_at hl 1 rfl) ?_
  refine y_if_lt C xt1 dX7_isType_1 (tgt := 19) (by decide) (fun c1 => ?_) (fun c1 => ?_)
  · have h := h.1 c1
    refine y_iconst C dX7_isType_19 ⟨by decide, by decide⟩ (fun v2 t2 => ?_)
    exact y_zret C hw hS t2 (Or.inl rfl) ⟨h, rfl⟩ dX7_isType_20
  · have h := h.2 c1
    refine lv_iload_n C.1.1 C.1.2.1 dX7_isType_4 rfl (lv_at hl 1 rfl) ?_
    refine lv_aload_n C.1.1 C.1.2.1 dX7_isType_5 rfl (lv_at hl 0 rfl) ?_
    obtain ⟨x_3, e3⟩ : ∃ z : Int, z = S 0 4 := ⟨_, rfl⟩
    obtain ⟨o3, h⟩ := h x_3 e3
    refine y_getO C fl_X7_16 hw (ock_7 SB) rfl e3 o3 dX7_isType_6 ?_
    refine y_getI C fl_X7_73 hw (oc_of SB o3) rfl dX7_isType_9 (fun v4 t4 => ?_)
    refine y_icmp_ge C xt1 t4 dX7_isType_12 (tgt := 19) (by decide) (fun c5 => ?_) (fun c5 => ?_)
    · have h := h.1 c5
      refine y_iconst C dX7_isType_19 ⟨by decide, by decide⟩ (fun v6 t6 => ?_)
      exact y_zret C hw hS t6 (Or.inl rfl) ⟨h, rfl⟩ dX7_isType_20
    · have h := h.2 c5
      refine y_iconst C dX7_isType_15 ⟨by decide, by decide⟩ (fun v7 t7 => ?_)
      refine lv_goto (tgt := 20) C.1.1 C.1.2.1 dX7_isType_16 (by decide) ?_
      exact y_zret C hw hS t7 (Or.inr rfl) ⟨h, rfl⟩ dX7_isType_20
theorem kX7_isType (l : Launch) (G : GG) (SB S : St) {xv1 : Int32} {x1 : Int} (xt1 : xv1.toInt = x1) {k : Int → Prop} (h : wX7_isType S x1 k) : CnI l yX7_isType cX7_isType 2 (some .boolean) 0 0 G (injC SB) [.ref (G.2.2 0), .int xv1] S (fun r u => k r ∧ u = S) :=
  cn_body (by decide +kernel) (Nat.le_of_ble_eq_true rfl) (fun p e s m args below meth c ls C hw hl => uX7_isType_0 C hw va_S.rf xt1 (lv_sub hl [0, 1] rfl) h)
set_option maxHeartbeats 4000000 in
set_option maxRecDepth 10000 in
theorem uX7_type_0 {p : Program} {l : Launch} {e : Env} {s : State} {m : MethodId} {args : Array Value} {below : List Frame} {meth : Method} {c : Code} {G : GG} {SB : St} (C : Cx p s m args meth c G RX7 cX7_type 4 (some .int)) {S : St} {H : Heap} {locs : List Loc} {ls : Array Slot}  {k : Int → Prop} (hw : Wd G ((injC SB) S) H) (hS : va_S (AG G) s.heap H locs) {xv1 : Int32} {x1 : Int} (xt1 : xv1.toInt = x1) {xv2 : Int32} {x2 : Int} (xt2 : xv2.toInt = x2) (hl : lv_has ls 4 [(0, .ref (G.2.2 0)), (1, .int xv1), (2, .int xv2)])  (h : wX7_type_0 S x1 x2 k) : W p l e (rmF 1 21) s m args below meth c H locs 0 0 (MQ below (QcI G (injC SB) (fun r u => k r ∧ u = S)) args s 0 0 (AG G)) (F0 m 0 ls []) := by
  refine lv_aload_n C.1.1 C.1.2.1 dX7_type_0 rfl (lv_at hl 0 rfl) ?_
  refine lv_iload_n C.1.1 C.1.2.1 dX7_type_1 rfl (lv_at hl 1 rfl) ?_
  refine y_cVIp C (As := [.int xv1]) (rest := []) ml_X7_76 (kX7_isType l G SB S xt1 h) (ock_7 SB) (T := TX7) (N := 9) rfl (by decide) ⟨(Nat.le_of_ble_eq_true rfl), (Nat.le_of_ble_eq_true rfl)⟩ hl.1 rfl rfl (Nat.le_of_ble_eq_true rfl) hw hS dX7_type_2 (fun v1 x_1 H locs t1 h hw hS => ?_)
  refine y_if_ne C t1 dX7_type_5 (tgt := 11) (by decide) (fun c2 => ?_) (fun c2 => ?_)
  · have h := h.1 c2
    refine lv_aload_n C.1.1 C.1.2.1 dX7_type_11 rfl (lv_at hl 0 rfl) ?_
    obtain ⟨x_3, e3⟩ : ∃ z : Int, z = S 0 4 := ⟨_, rfl⟩
    obtain ⟨o3, h⟩ := h x_3 e3
    refine y_getO C fl_X7_16 hw (ock_7 SB) rfl e3 o3 dX7_type_12 ?_
    refine y_getA C fl_X7_80 hw (oc_of SB o3) rfl (o := 1) rfl dX7_type_15 ?_
    refine lv_iload_n C.1.1 C.1.2.1 dX7_type_18 rfl (lv_at hl 1 rfl) ?_
    obtain ⟨b5, h⟩ := h
    obtain ⟨x_5, e5⟩ : ∃ z : Int, z = x_3 + 6 + 6 * x1 := ⟨_, rfl⟩
    have h := h x_5 e5
    have o5 : isO 6 x_5 := isO_ty o3 b5 e5
    refine y_tyO C hw o3 xt1 b5 e5 dX7_type_19 ?_
    refine lv_astore_n (lv' := [(3, .ref (G.2.2 (x_5).toNat)), (0, .ref (G.2.2 0)), (1, .int xv1), (2, .int xv2)]) C.1.1 C.1.2.1 dX7_type_20 rfl hl (by decide) rfl (fun ls hl => ?_)
    refine lv_iload_n C.1.1 C.1.2.1 dX7_type_21 rfl (lv_at hl 3 rfl) ?_
    by_cases c6_0 : x2 = 0
    · have h := h.1 c6_0
      refine y_tabIn C xt2 c6_0 dX7_type_22 (by decide) (by decide) (off := 54) rfl (tgt := 76) (by decide) ?_
      refine lv_aload_n C.1.1 C.1.2.1 dX7_type_76 rfl (lv_at hl 0 rfl) ?_
      refine y_getI C fl_X7_84 hw (oc_of SB o5) rfl dX7_type_77 (fun v7 t7 => ?_)
      exact y_iret C hw hS t7 ⟨h, rfl⟩ dX7_type_80
    have h := h.2
    by_cases c6_1 : x2 = 1
    · have h := h.1 c6_1
      refine y_tabIn C xt2 c6_1 dX7_type_22 (by decide) (by decide) (off := 59) rfl (tgt := 81) (by decide) ?_
      refine lv_aload_n C.1.1 C.1.2.1 dX7_type_81 rfl (lv_at hl 0 rfl) ?_
      refine y_getI C fl_X7_89 hw (oc_of SB o5) rfl dX7_type_82 (fun v8 t8 => ?_)
      exact y_iret C hw hS t8 ⟨h, rfl⟩ dX7_type_85
    have h := h.2
    by_cases c6_2 : x2 = 2
    · have h := h.1 c6_2
      refine y_tabIn C xt2 c6_2 dX7_type_22 (by decide) (by decide) (off := 64) rfl (tgt := 86) (by decide) ?_
      refine lv_aload_n C.1.1 C.1.2.1 dX7_type_86 rfl (lv_at hl 0 rfl) ?_
      refine y_getI C fl_X7_92 hw (oc_of SB o5) rfl dX7_type_87 (fun v9 t9 => ?_)
      exact y_iret C hw hS t9 ⟨h, rfl⟩ dX7_type_90
    have h := h.2
    by_cases c6_3 : x2 = 3
    · have h := h.1 c6_3
      refine y_tabIn C xt2 c6_3 dX7_type_22 (by decide) (by decide) (off := 69) rfl (tgt := 91) (by decide) ?_
      refine lv_aload_n C.1.1 C.1.2.1 dX7_type_91 rfl (lv_at hl 0 rfl) ?_
      refine y_getI C fl_X7_95 hw (oc_of SB o5) rfl dX7_type_92 (fun v10 t10 => ?_)
      refine y_iconst C dX7_type_95 ⟨by decide, by decide⟩ (fun v11 t11 => ?_)
      refine y_icmp_ne C t10 t11 dX7_type_96 (tgt := 104) (by decide) (fun c12 => ?_) (fun c12 => ?_)
      · have h := h.1 c12
        refine lv_aload_n C.1.1 C.1.2.1 dX7_type_104 rfl (lv_at hl 0 rfl) ?_
        refine y_getI C fl_X7_95 hw (oc_of SB o5) rfl dX7_type_105 (fun v13 t13 => ?_)
        exact y_iret C hw hS t13 ⟨h, rfl⟩ dX7_type_108
      · have h := h.2 c12
        refine y_bipush C dX7_type_99 ⟨by decide, by decide⟩ (fun v14 t14 => ?_)
        refine lv_goto (tgt := 108) C.1.1 C.1.2.1 dX7_type_101 (by decide) ?_
        exact y_iret C hw hS t14 ⟨h, rfl⟩ dX7_type_108
    have h := h.2
    by_cases c6_4 : x2 = 4
    · have h := h.1 c6_4
      refine y_tabIn C xt2 c6_4 dX7_type_22 (by decide) (by decide) (off := 87) rfl (tgt := 109) (by decide) ?_
      refine lv_aload_n C.1.1 C.1.2.1 dX7_type_109 rfl (lv_at hl 0 rfl) ?_
      refine y_getI C fl_X7_98 hw (oc_of SB o5) rfl dX7_type_110 (fun v15 t15 => ?_)
      exact y_iret C hw hS t15 ⟨h, rfl⟩ dX7_type_113
    have h := h.2
    by_cases c6_5 : x2 = 5
    · have h := h.1 c6_5
      refine y_tabIn C xt2 c6_5 dX7_type_22 (by decide) (by decide) (off := 92) rfl (tgt := 114) (by decide) ?_
      refine lv_aload_n C.1.1 C.1.2.1 dX7_type_114 rfl (lv_at hl 0 rfl) ?_
      refine y_getI C fl_X7_101 hw (oc_of SB o5) rfl dX7_type_115 (fun v16 t16 => ?_)
      exact y_iret C hw hS t16 ⟨h, rfl⟩ dX7_type_118
    have h := h.2
    by_cases c6_6 : x2 = 6
    · have h := h.1 c6_6
      refine y_tabIn C xt2 c6_6 dX7_type_22 (by decide) (by decide) (off := 97) rfl (tgt := 119) (by decide) ?_
      refine lv_aload_n C.1.1 C.1.2.1 dX7_type_119 rfl (lv_at hl 0 rfl) ?_
      refine y_getI C fl_X7_104 hw (oc_of SB o5) rfl dX7_type_120 (fun v17 t17 => ?_)
      exact y_iret C hw hS t17 ⟨h, rfl⟩ dX7_type_123
    have h := h.2
    by_cases c6_7 : x2 = 7
    · have h := h.1 c6_7
      refine y_tabIn C xt2 c6_7 dX7_type_22 (by decide) (by decide) (off := 102) rfl (tgt := 124) (by decide) ?_
      refine lv_aload_n C.1.1 C.1.2.1 dX7_type_124 rfl (lv_at hl 0 rfl) ?_
      refine y_getI C fl_X7_107 hw (oc_of SB o5) rfl dX7_type_125 (fun v18 t18 => ?_)
      exact y_iret C hw hS t18 ⟨h, rfl⟩ dX7_type_128
    have h := h.2
    by_cases c6_8 : x2 = 8
    · have h := h.1 c6_8
      refine y_tabIn C xt2 c6_8 dX7_type_22 (by decide) (by decide) (off := 107) rfl (tgt := 129) (by decide) ?_
      refine lv_aload_n C.1.1 C.1.2.1 dX7_type_129 rfl (lv_at hl 0 rfl) ?_
      refine y_getI C fl_X7_110 hw (oc_of SB o5) rfl dX7_type_130 (fun v19 t19 => ?_)
      exact y_iret C hw hS t19 ⟨h, rfl⟩ dX7_type_133
    have h := h.2
    by_cases c6_9 : x2 = 9
    · have h := h.1 c6_9
      refine y_tabIn C xt2 c6_9 dX7_type_22 (by decide) (by decide) (off := 112) rfl (tgt := 134) (by decide) ?_
      refine lv_aload_n C.1.1 C.1.2.1 dX7_type_134 rfl (lv_at hl 0 rfl) ?_
      refine y_getI C fl_X7_101 hw (oc_of SB o5) rfl dX7_type_135 (fun v20 t20 => ?_)
      refine y_if_ne C t20 dX7_type_138 (tgt := 146) (by decide) (fun c21 => ?_) (fun c21 => ?_)
      · have h := h.1 c21
        refine lv_aload_n C.1.1 C.1.2.1 dX7_type_146 rfl (lv_at hl 0 rfl) ?_
        refine y_getI C fl_X7_113 hw (oc_of SB o5) rfl dX7_type_147 (fun v22 t22 => ?_)
        exact y_iret C hw hS t22 ⟨h, rfl⟩ dX7_type_150
      · have h := h.2 c21
        refine y_bipush C dX7_type_141 ⟨by decide, by decide⟩ (fun v23 t23 => ?_)
        refine lv_goto (tgt := 150) C.1.1 C.1.2.1 dX7_type_143 (by decide) ?_
        exact y_iret C hw hS t23 ⟨h, rfl⟩ dX7_type_150
    have h := h.2
    have c6 : x2 < 0 ∨ 9 < x2 := by clear h hw hS hl C; omega
    have h := h c6
    refine y_tabOut C xt2 c6 dX7_type_22 (tgt := 151) (by decide) ?_
    refine y_bipush C dX7_type_151 ⟨by decide, by decide⟩ (fun v24 t24 => ?_)
    exact y_iret C hw hS t24 ⟨h, rfl⟩ dX7_type_153
  · have h := h.2 c2
    refine y_bipush C dX7_type_8 ⟨by decide, by decide⟩ (fun v25 t25 => ?_)
    exact y_iret C hw hS t25 ⟨h, rfl⟩ dX7_type_10
theorem kX7_type (l : Launch) (G : GG) (SB S : St) {xv1 : Int32} {x1 : Int} (xt1 : xv1.toInt = x1) {xv2 : Int32} {x2 : Int} (xt2 : xv2.toInt = x2) {k : Int → Prop} (h : wX7_type S x1 x2 k) : CnI l yX7_type cX7_type 4 (some .int) 1 21 G (injC SB) [.ref (G.2.2 0), .int xv1, .int xv2] S (fun r u => k r ∧ u = S) :=
  cn_body (by decide +kernel) (Nat.le_of_ble_eq_true rfl) (fun p e s m args below meth c ls C hw hl => uX7_type_0 C hw va_S.rf xt1 xt2 (lv_sub hl [0, 1, 2] rfl) h)
set_option maxHeartbeats 4000000 in
set_option maxRecDepth 10000 in
theorem uX7_told_0 {p : Program} {l : Launch} {e : Env} {s : State} {m : MethodId} {args : Array Value} {below : List Frame} {meth : Method} {c : Code} {G : GG} {SB : St} (C : Cx p s m args meth c G RX7 cX7_told 2 (some .int)) {S : St} {H : Heap} {locs : List Loc} {ls : Array Slot}  {k : Int → Prop} (hw : Wd G ((injC SB) S) H) (hS : va_S (AG G) s.heap H locs) {xv1 : Int32} {x1 : Int} (xt1 : xv1.toInt = x1) (hl : lv_has ls 2 [(0, .ref (G.2.2 0)), (1, .int xv1)])  (h : wX7_told_0 S x1 k) : W p l e (rmF 0 0) s m args below meth c H locs 0 0 (MQ below (QcI G (injC SB) (fun r u => k r ∧ u = S)) args s 0 0 (AG G)) (F0 m 0 ls []) := by
  refine lv_iload_n C.1.1 C.1.2.1 dX7_told_0 rfl (lv_at hl 1 rfl) ?_
  by_cases c1_0 : x1 = 0
  · have h := h.1 c1_0
    refine y_tabIn C xt1 c1_0 dX7_told_1 (by decide) (by decide) (off := 35) rfl (tgt := 36) (by decide) ?_
    refine lv_aload_n C.1.1 C.1.2.1 dX7_told_36 rfl (lv_at hl 0 rfl) ?_
    obtain ⟨x_2, e2⟩ : ∃ z : Int, z = S 0 4 := ⟨_, rfl⟩
    obtain ⟨o2, h⟩ := h x_2 e2
    refine y_getO C fl_X7_16 hw (ock_7 SB) rfl e2 o2 dX7_told_37 ?_
    refine y_getI C fl_X7_73 hw (oc_of SB o2) rfl dX7_told_40 (fun v3 t3 => ?_)
    exact y_iret C hw hS t3 ⟨h, rfl⟩ dX7_told_43
  have h := h.2
  by_cases c1_1 : x1 = 1
  · have h := h.1 c1_1
    refine y_tabIn C xt1 c1_1 dX7_told_1 (by decide) (by decide) (off := 43) rfl (tgt := 44) (by decide) ?_
    refine lv_aload_n C.1.1 C.1.2.1 dX7_told_44 rfl (lv_at hl 0 rfl) ?_
    obtain ⟨x_4, e4⟩ : ∃ z : Int, z = S 0 4 := ⟨_, rfl⟩
    obtain ⟨o4, h⟩ := h x_4 e4
    refine y_getO C fl_X7_16 hw (ock_7 SB) rfl e4 o4 dX7_told_45 ?_
    refine y_getI C fl_X7_215 hw (oc_of SB o4) rfl dX7_told_48 (fun v5 t5 => ?_)
    exact y_iret C hw hS t5 ⟨h, rfl⟩ dX7_told_51
  have h := h.2
  by_cases c1_2 : x1 = 2
  · have h := h.1 c1_2
    refine y_tabIn C xt1 c1_2 dX7_told_1 (by decide) (by decide) (off := 51) rfl (tgt := 52) (by decide) ?_
    refine lv_aload_n C.1.1 C.1.2.1 dX7_told_52 rfl (lv_at hl 0 rfl) ?_
    obtain ⟨x_6, e6⟩ : ∃ z : Int, z = S 0 4 := ⟨_, rfl⟩
    obtain ⟨o6, h⟩ := h x_6 e6
    refine y_getO C fl_X7_16 hw (ock_7 SB) rfl e6 o6 dX7_told_53 ?_
    refine y_getI C fl_X7_216 hw (oc_of SB o6) rfl dX7_told_56 (fun v7 t7 => ?_)
    exact y_iret C hw hS t7 ⟨h, rfl⟩ dX7_told_59
  have h := h.2
  by_cases c1_3 : x1 = 3
  · have h := h.1 c1_3
    refine y_tabIn C xt1 c1_3 dX7_told_1 (by decide) (by decide) (off := 59) rfl (tgt := 60) (by decide) ?_
    refine lv_aload_n C.1.1 C.1.2.1 dX7_told_60 rfl (lv_at hl 0 rfl) ?_
    obtain ⟨x_8, e8⟩ : ∃ z : Int, z = S 0 4 := ⟨_, rfl⟩
    obtain ⟨o8, h⟩ := h x_8 e8
    refine y_getO C fl_X7_16 hw (ock_7 SB) rfl e8 o8 dX7_told_61 ?_
    refine y_getI C fl_X7_217 hw (oc_of SB o8) rfl dX7_told_64 (fun v9 t9 => ?_)
    exact y_iret C hw hS t9 ⟨h, rfl⟩ dX7_told_67
  have h := h.2
  by_cases c1_4 : x1 = 4
  · have h := h.1 c1_4
    refine y_tabIn C xt1 c1_4 dX7_told_1 (by decide) (by decide) (off := 67) rfl (tgt := 68) (by decide) ?_
    refine lv_aload_n C.1.1 C.1.2.1 dX7_told_68 rfl (lv_at hl 0 rfl) ?_
    refine y_getI C fl_X7_48 hw (ock_7 SB) rfl dX7_told_69 (fun v10 t10 => ?_)
    exact y_iret C hw hS t10 ⟨h, rfl⟩ dX7_told_72
  have h := h.2
  have c1 : x1 < 0 ∨ 4 < x1 := by clear h hw hS hl C; omega
  have h := h c1
  refine y_tabOut C xt1 c1 dX7_told_1 (tgt := 73) (by decide) ?_
  refine y_bipush C dX7_told_73 ⟨by decide, by decide⟩ (fun v11 t11 => ?_)
  exact y_iret C hw hS t11 ⟨h, rfl⟩ dX7_told_75
theorem kX7_told (l : Launch) (G : GG) (SB S : St) {xv1 : Int32} {x1 : Int} (xt1 : xv1.toInt = x1) {k : Int → Prop} (h : wX7_told S x1 k) : CnI l yX7_told cX7_told 2 (some .int) 0 0 G (injC SB) [.ref (G.2.2 0), .int xv1] S (fun r u => k r ∧ u = S) :=
  cn_body (by decide +kernel) (Nat.le_of_ble_eq_true rfl) (fun p e s m args below meth c ls C hw hl => uX7_told_0 C hw va_S.rf xt1 (lv_sub hl [0, 1] rfl) h)
