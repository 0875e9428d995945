/-! by program: the machine meets the models -/
set_option maxHeartbeats 4000000 in
set_option maxRecDepth 10000 in
theorem uX8_past_0 {p : Program} {l : Launch} {e : Env} {s : State} {m : MethodId} {args : Array Value} {below : List Frame} {meth : Method} {c : Code} {G : GG} {SB : St} (C : Cx p s m args meth c G RX8 cX8_past 1 none) {S : St} {H : Heap} {locs : List Loc} {ls : Array Slot}  {k : St → Prop} (hw : Wd G ((injR SB) S) H) (hS : va_S (AG G) s.heap H locs)  (hl : lv_has ls 1 [(0, .ref (G.2.2 1042))])  (h : wX8_past_0 S k) : W p l e (rmF 2 44) s m args below meth c H locs 0 0 (MQ below (QcV G (injR SB) k) args s 0 0 (AG G)) (F0 m 0 ls []) := by
  refine lv_aload_n C.1.1 C.1.2.1 dX8_past_0 rfl (lv_at hl 0 rfl) ?_
  refine y_getI C fl_X8_271 hw (ocr SB) rfl dX8_past_1 (fun v1 t1 => ?_)
  refine y_if_eq C t1 dX8_past_4 (tgt := 20) (by decide) (fun c2 => ?_) (fun c2 => ?_)
  · have h := h.1 c2
    refine lv_aload_n C.1.1 C.1.2.1 dX8_past_20 rfl (lv_at hl 0 rfl) ?_
    refine y_cVV C (As := []) (rest := []) ml_X8_202 (kX8_next l G SB S  h) (ocr SB) (T := TX8) (N := 60) rfl (by decide) ⟨(Nat.le_of_ble_eq_true rfl), (Nat.le_of_ble_eq_true rfl)⟩ hl.1 rfl rfl (Nat.le_of_ble_eq_true rfl) hw hS dX8_past_21 (fun S_3 H locs h hw hS => ?_)
    exact y_vret C hw hS h dX8_past_24
  · have h := h.2 c2
    refine lv_aload_n C.1.1 C.1.2.1 dX8_past_7 rfl (lv_at hl 0 rfl) ?_
    refine y_bipush C dX8_past_8 ⟨by decide, by decide⟩ (fun v4 t4 => ?_)
    refine lv_aload_n C.1.1 C.1.2.1 dX8_past_10 rfl (lv_at hl 0 rfl) ?_
    refine y_getI C fl_X8_172 hw (ocr SB) rfl dX8_past_11 (fun v5 t5 => ?_)
    refine y_cVV C (As := [.int v4, .int v5]) (rest := []) ml_X8_195 (kX8_fails l G SB S t4 t5 h) (ocr SB) (T := TX8) (N := 60) rfl (by decide) ⟨(Nat.le_of_ble_eq_true rfl), (Nat.le_of_ble_eq_true rfl)⟩ hl.1 rfl rfl (Nat.le_of_ble_eq_true rfl) hw hS dX8_past_14 (fun S_6 H locs h hw hS => ?_)
    refine lv_goto (tgt := 24) C.1.1 C.1.2.1 dX8_past_17 (by decide) ?_
    exact y_vret C hw hS h dX8_past_24
theorem kX8_past (l : Launch) (G : GG) (SB S : St)  {k : St → Prop} (h : wX8_past S k) : CnV l yX8_past cX8_past 1 none 2 44 G (injR SB) [.ref (G.2.2 1042)] S k :=
  cn_body (by decide +kernel) (Nat.le_of_ble_eq_true rfl) (fun p e s m args below meth c ls C hw hl => uX8_past_0 C hw va_S.rf  (lv_sub hl [0] rfl) h)
set_option maxHeartbeats 4000000 in
set_option maxRecDepth 10000 in
theorem uX8_readAccess_59 {p : Program} {l : Launch} {e : Env} {s : State} {m : MethodId} {args : Array Value} {below : List Frame} {meth : Method} {c : Code} {G : GG} {SB : St} (C : Cx p s m args meth c G RX8 cX8_readAccess 3 (some .int)) {S : St} {H : Heap} {locs : List Loc} {ls : Array Slot}  {k : Int → St → Prop} (hw : Wd G ((injR SB) S) H) (hS : va_S (AG G) s.heap H locs) {xv2 : Int32} {x2 : Int} (xt2 : xv2.toInt = x2) (hl : lv_has ls 3 [(0, .ref (G.2.2 1042)), (2, .int xv2)])  (h : wX8_readAccess_59 S x2 k) : W p l e (rmF 3 64) s m args below meth c H locs 0 0 (MQ below (QcI G (injR SB) k) args s 0 0 (AG G)) (F0 m 59 ls []) := by
  refine lv_iload_n C.1.1 C.1.2.1 dX8_readAccess_59 rfl (lv_at hl 1 rfl) ?_
  refine y_if_lt C xt2 dX8_readAccess_60 (tgt := 67) (by decide) (fun c1 => ?_) (fun c1 => ?_)
  · have h := h.1 c1
    refine lv_iload_n C.1.1 C.1.2.1 dX8_readAccess_67 rfl (lv_at hl 1 rfl) ?_
    exact y_iret C hw hS xt2 h dX8_readAccess_68
  · have h := h.2 c1
    refine lv_aload_n C.1.1 C.1.2.1 dX8_readAccess_63 rfl (lv_at hl 0 rfl) ?_
    refine y_cVV C (As := []) (rest := []) ml_X8_275 (kX8_past l G SB S  h) (ocr SB) (T := TX8) (N := 60) rfl (by decide) ⟨(Nat.le_of_ble_eq_true rfl), (Nat.le_of_ble_eq_true rfl)⟩ hl.1 rfl rfl (Nat.le_of_ble_eq_true rfl) hw hS dX8_readAccess_64 (fun S_2 H locs h hw hS => ?_)
    refine lv_iload_n C.1.1 C.1.2.1 dX8_readAccess_67 rfl (lv_at hl 1 rfl) ?_
    exact y_iret C hw hS xt2 h dX8_readAccess_68
set_option maxHeartbeats 4000000 in
set_option maxRecDepth 10000 in
theorem uX8_readAccess_40 {p : Program} {l : Launch} {e : Env} {s : State} {m : MethodId} {args : Array Value} {below : List Frame} {meth : Method} {c : Code} {G : GG} {SB : St} (C : Cx p s m args meth c G RX8 cX8_readAccess 3 (some .int)) {S : St} {H : Heap} {locs : List Loc} {ls : Array Slot}  {k : Int → St → Prop} (hw : Wd G ((injR SB) S) H) (hS : va_S (AG G) s.heap H locs) {xv1 : Int32} {x1 : Int} (xt1 : xv1.toInt = x1) {sv0 : Int32} {s0 : Int} (st0 : sv0.toInt = s0) (hl : lv_has ls 3 [(0, .ref (G.2.2 1042)), (1, .int xv1)])  (h : wX8_readAccess_40 S x1 s0 k) : W p l e (rmF 3 64) s m args below meth c H locs 0 0 (MQ below (QcI G (injR SB) k) args s 0 0 (AG G)) (F0 m 40 ls [.int sv0]) := by
  refine lv_istore_n (lv' := [(2, .int sv0), (0, .ref (G.2.2 1042)), (1, .int xv1)]) C.1.1 C.1.2.1 dX8_readAccess_40 rfl hl (by decide) rfl (fun ls hl => ?_)
  refine lv_iload_n C.1.1 C.1.2.1 dX8_readAccess_41 rfl (lv_at hl 0 rfl) ?_
  refine y_iconst C dX8_readAccess_42 ⟨by decide, by decide⟩ (fun v1 t1 => ?_)
  refine y_icmp_ne C st0 t1 dX8_readAccess_43 (tgt := 59) (by decide) (fun c2 => ?_) (fun c2 => ?_)
  · have h := h.1 c2
    exact uX8_readAccess_59 C hw hS st0 (lv_sub hl [1, 0] rfl)  h
  · have h := h.2 c2
    refine lv_iload_n C.1.1 C.1.2.1 dX8_readAccess_46 rfl (lv_at hl 2 rfl) ?_
    refine y_if_eq C xt1 dX8_readAccess_47 (tgt := 59) (by decide) (fun c3 => ?_) (fun c3 => ?_)
    · have h := h.1 c3
      exact uX8_readAccess_59 C hw hS st0 (lv_sub hl [1, 0] rfl)  h
    · have h := h.2 c3
      refine lv_aload_n C.1.1 C.1.2.1 dX8_readAccess_50 rfl (lv_at hl 1 rfl) ?_
      refine y_iconst C dX8_readAccess_51 ⟨by decide, by decide⟩ (fun v4 t4 => ?_)
      refine lv_aload_n C.1.1 C.1.2.1 dX8_readAccess_52 rfl (lv_at hl 1 rfl) ?_
      refine y_getI C fl_X8_172 hw (ocr SB) rfl dX8_readAccess_53 (fun v5 t5 => ?_)
      refine y_cVV C (As := [.int v4, .int v5]) (rest := []) ml_X8_195 (kX8_fails l G SB S t4 t5 h) (ocr SB) (T := TX8) (N := 60) rfl (by decide) ⟨(Nat.le_of_ble_eq_true rfl), (Nat.le_of_ble_eq_true rfl)⟩ hl.1 rfl rfl (Nat.le_of_ble_eq_true rfl) hw hS dX8_readAccess_56 (fun S_6 H locs h hw hS => ?_)
      exact uX8_readAccess_59 C hw hS st0 (lv_sub hl [1, 0] rfl)  h
set_option maxHeartbeats 4000000 in
set_option maxRecDepth 10000 in
theorem uX8_readAccess_0 {p : Program} {l : Launch} {e : Env} {s : State} {m : MethodId} {args : Array Value} {below : List Frame} {meth : Method} {c : Code} {G : GG} {SB : St} (C : Cx p s m args meth c G RX8 cX8_readAccess 3 (some .int)) {S : St} {H : Heap} {locs : List Loc} {ls : Array Slot}  {k : Int → St → Prop} (hw : Wd G ((injR SB) S) H) (hS : va_S (AG G) s.heap H locs) {xv1 : Int32} {x1 : Int} (xt1 : xv1.toInt = x1) (hl : lv_has ls 3 [(0, .ref (G.2.2 1042)), (1, .int xv1)])  (h : wX8_readAccess_0 S x1 k) : W p l e (rmF 3 64) s m args below meth c H locs 0 0 (MQ below (QcI G (injR SB) k) args s 0 0 (AG G)) (F0 m 0 ls []) := by
  refine lv_aload_n C.1.1 C.1.2.1 dX8_readAccess_0 rfl (lv_at hl 0 rfl) ?_
  refine y_bipush C dX8_readAccess_1 ⟨by decide, by decide⟩ (fun v1 t1 => ?_)
  refine y_cVIp C (As := [.int v1]) (rest := []) ml_X8_199 (kX8_is l G SB S t1 h) (ocr SB) (T := TX8) (N := 60) rfl (by decide) ⟨(Nat.le_of_ble_eq_true rfl), (Nat.le_of_ble_eq_true rfl)⟩ hl.1 rfl rfl (Nat.le_of_ble_eq_true rfl) hw hS dX8_readAccess_3 (fun v2 x_2 H locs t2 h hw hS => ?_)
  refine y_if_eq C t2 dX8_readAccess_6 (tgt := 13) (by decide) (fun c3 => ?_) (fun c3 => ?_)
  · have h := h.1 c3
    refine lv_aload_n C.1.1 C.1.2.1 dX8_readAccess_13 rfl (lv_at hl 0 rfl) ?_
    refine y_bipush C dX8_readAccess_14 ⟨by decide, by decide⟩ (fun v4 t4 => ?_)
    refine y_cVIp C (As := [.int v4]) (rest := []) ml_X8_199 (kX8_is l G SB S t4 h) (ocr SB) (T := TX8) (N := 60) rfl (by decide) ⟨(Nat.le_of_ble_eq_true rfl), (Nat.le_of_ble_eq_true rfl)⟩ hl.1 rfl rfl (Nat.le_of_ble_eq_true rfl) hw hS dX8_readAccess_16 (fun v5 x_5 H locs t5 h hw hS => ?_)
    refine y_if_eq C t5 dX8_readAccess_19 (tgt := 26) (by decide) (fun c6 => ?_) (fun c6 => ?_)
    · have h := h.1 c6
      refine lv_aload_n C.1.1 C.1.2.1 dX8_readAccess_26 rfl (lv_at hl 0 rfl) ?_
      refine y_bipush C dX8_readAccess_27 ⟨by decide, by decide⟩ (fun v7 t7 => ?_)
      refine y_cVIp C (As := [.int v7]) (rest := []) ml_X8_199 (kX8_is l G SB S t7 h) (ocr SB) (T := TX8) (N := 60) rfl (by decide) ⟨(Nat.le_of_ble_eq_true rfl), (Nat.le_of_ble_eq_true rfl)⟩ hl.1 rfl rfl (Nat.le_of_ble_eq_true rfl) hw hS dX8_readAccess_29 (fun v8 x_8 H locs t8 h hw hS => ?_)
      refine y_if_eq C t8 dX8_readAccess_32 (tgt := 39) (by decide) (fun c9 => ?_) (fun c9 => ?_)
      · have h := h.1 c9
        refine y_iconst C dX8_readAccess_39 ⟨by decide, by decide⟩ (fun v10 t10 => ?_)
        exact uX8_readAccess_40 C hw hS xt1 t10 (lv_sub hl [0, 1] rfl)  h
      · have h := h.2 c9
        refine y_iconst C dX8_readAccess_35 ⟨by decide, by decide⟩ (fun v11 t11 => ?_)
        refine lv_goto (tgt := 40) C.1.1 C.1.2.1 dX8_readAccess_36 (by decide) ?_
        exact uX8_readAccess_40 C hw hS xt1 t11 (lv_sub hl [0, 1] rfl)  h
    · have h := h.2 c6
      refine y_iconst C dX8_readAccess_22 ⟨by decide, by decide⟩ (fun v12 t12 => ?_)
      refine lv_goto (tgt := 40) C.1.1 C.1.2.1 dX8_readAccess_23 (by decide) ?_
      exact uX8_readAccess_40 C hw hS xt1 t12 (lv_sub hl [0, 1] rfl)  h
  · have h := h.2 c3
    refine y_iconst C dX8_readAccess_9 ⟨by decide, by decide⟩ (fun v13 t13 => ?_)
    refine lv_goto (tgt := 40) C.1.1 C.1.2.1 dX8_readAccess_10 (by decide) ?_
    exact uX8_readAccess_40 C hw hS xt1 t13 (lv_sub hl [0, 1] rfl)  h
theorem kX8_readAccess (l : Launch) (G : GG) (SB S : St) {xv1 : Int32} {x1 : Int} (xt1 : xv1.toInt = x1) {k : Int → St → Prop} (h : wX8_readAccess S x1 k) : CnI l yX8_readAccess cX8_readAccess 3 (some .int) 3 64 G (injR SB) [.ref (G.2.2 1042), .int xv1] S k :=
  cn_body (by decide +kernel) (Nat.le_of_ble_eq_true rfl) (fun p e s m args below meth c ls C hw hl => uX8_readAccess_0 C hw va_S.rf xt1 (lv_sub hl [0, 1] rfl) h)
set_option maxHeartbeats 4000000 in
set_option maxRecDepth 10000 in
theorem uX8_readShape_73 {p : Program} {l : Launch} {e : Env} {s : State} {m : MethodId} {args : Array Value} {below : List Frame} {meth : Method} {c : Code} {G : GG} {SB : St} (C : Cx p s m args meth c G RX8 cX8_readShape 4 (some .int)) {S : St} {H : Heap} {locs : List Loc} {ls : Array Slot}  {k : Int → St → Prop} (hw : Wd G ((injR SB) S) H) (hS : va_S (AG G) s.heap H locs) {xv3 : Int32} {x3 : Int} (xt3 : xv3.toInt = x3) (hl : lv_has ls 4 [(0, .ref (G.2.2 1042)), (3, .int xv3)])  (h : wX8_readShape_73 S x3 k) : W p l e (rmF 3 64) s m args below meth c H locs 0 0 (MQ below (QcI G (injR SB) k) args s 0 0 (AG G)) (F0 m 73 ls []) := by
  refine lv_iload_n C.1.1 C.1.2.1 dX8_readShape_73 rfl (lv_at hl 1 rfl) ?_
  refine y_if_lt C xt3 dX8_readShape_74 (tgt := 81) (by decide) (fun c1 => ?_) (fun c1 => ?_)
  · have h := h.1 c1
    refine lv_iload_n C.1.1 C.1.2.1 dX8_readShape_81 rfl (lv_at hl 1 rfl) ?_
    exact y_iret C hw hS xt3 h dX8_readShape_82
  · have h := h.2 c1
    refine lv_aload_n C.1.1 C.1.2.1 dX8_readShape_77 rfl (lv_at hl 0 rfl) ?_
    refine y_cVV C (As := []) (rest := []) ml_X8_275 (kX8_past l G SB S  h) (ocr SB) (T := TX8) (N := 60) rfl (by decide) ⟨(Nat.le_of_ble_eq_true rfl), (Nat.le_of_ble_eq_true rfl)⟩ hl.1 rfl rfl (Nat.le_of_ble_eq_true rfl) hw hS dX8_readShape_78 (fun S_2 H locs h hw hS => ?_)
    refine lv_iload_n C.1.1 C.1.2.1 dX8_readShape_81 rfl (lv_at hl 1 rfl) ?_
    exact y_iret C hw hS xt3 h dX8_readShape_82
set_option maxHeartbeats 4000000 in
set_option maxRecDepth 10000 in
theorem uX8_readShape_64 {p : Program} {l : Launch} {e : Env} {s : State} {m : MethodId} {args : Array Value} {below : List Frame} {meth : Method} {c : Code} {G : GG} {SB : St} (C : Cx p s m args meth c G RX8 cX8_readShape 4 (some .int)) {S : St} {H : Heap} {locs : List Loc} {ls : Array Slot}  {k : Int → St → Prop} (hw : Wd G ((injR SB) S) H) (hS : va_S (AG G) s.heap H locs) {xv3 : Int32} {x3 : Int} (xt3 : xv3.toInt = x3) (hl : lv_has ls 4 [(0, .ref (G.2.2 1042)), (3, .int xv3)])  (h : wX8_readShape_64 S x3 k) : W p l e (rmF 3 64) s m args below meth c H locs 0 0 (MQ below (QcI G (injR SB) k) args s 0 0 (AG G)) (F0 m 64 ls []) := by
  refine lv_aload_n C.1.1 C.1.2.1 dX8_readShape_64 rfl (lv_at hl 0 rfl) ?_
  refine y_iconst C dX8_readShape_65 ⟨by decide, by decide⟩ (fun v1 t1 => ?_)
  refine lv_aload_n C.1.1 C.1.2.1 dX8_readShape_66 rfl (lv_at hl 0 rfl) ?_
  refine y_getI C fl_X8_172 hw (ocr SB) rfl dX8_readShape_67 (fun v2 t2 => ?_)
  refine y_cVV C (As := [.int v1, .int v2]) (rest := []) ml_X8_195 (kX8_fails l G SB S t1 t2 h) (ocr SB) (T := TX8) (N := 60) rfl (by decide) ⟨(Nat.le_of_ble_eq_true rfl), (Nat.le_of_ble_eq_true rfl)⟩ hl.1 rfl rfl (Nat.le_of_ble_eq_true rfl) hw hS dX8_readShape_70 (fun S_3 H locs h hw hS => ?_)
  exact uX8_readShape_73 C hw hS xt3 (lv_sub hl [0, 1] rfl)  h
set_option maxHeartbeats 4000000 in
set_option maxRecDepth 10000 in
theorem uX8_readShape_51 {p : Program} {l : Launch} {e : Env} {s : State} {m : MethodId} {args : Array Value} {below : List Frame} {meth : Method} {c : Code} {G : GG} {SB : St} (C : Cx p s m args meth c G RX8 cX8_readShape 4 (some .int)) {S : St} {H : Heap} {locs : List Loc} {ls : Array Slot}  {k : Int → St → Prop} (hw : Wd G ((injR SB) S) H) (hS : va_S (AG G) s.heap H locs) {xv1 : Int32} {x1 : Int} (xt1 : xv1.toInt = x1) {xv2 : Int32} {x2 : Int} (xt2 : xv2.toInt = x2) {xv3 : Int32} {x3 : Int} (xt3 : xv3.toInt = x3) (hl : lv_has ls 4 [(0, .ref (G.2.2 1042)), (1, .int xv1), (2, .int xv2), (3, .int xv3)])  (h : wX8_readShape_51 S x1 x2 x3 k) : W p l e (rmF 3 64) s m args below meth c H locs 0 0 (MQ below (QcI G (injR SB) k) args s 0 0 (AG G)) (F0 m 51 ls []) := by
  refine lv_iload_n C.1.1 C.1.2.1 dX8_readShape_51 rfl (lv_at hl 3 rfl) ?_
  refine y_iconst C dX8_readShape_52 ⟨by decide, by decide⟩ (fun v1 t1 => ?_)
  refine y_icmp_ne C xt3 t1 dX8_readShape_53 (tgt := 73) (by decide) (fun c2 => ?_) (fun c2 => ?_)
  · have h := h.1 c2
    exact uX8_readShape_73 C hw hS xt3 (lv_sub hl [0, 3] rfl)  h
  · have h := h.2 c2
    refine lv_iload_n C.1.1 C.1.2.1 dX8_readShape_56 rfl (lv_at hl 1 rfl) ?_
    refine y_if_eq C xt1 dX8_readShape_57 (tgt := 64) (by decide) (fun c3 => ?_) (fun c3 => ?_)
    · have h := h.1 c3
      exact uX8_readShape_64 C hw hS xt3 (lv_sub hl [0, 3] rfl)  h
    · have h := h.2 c3
      refine lv_iload_n C.1.1 C.1.2.1 dX8_readShape_60 rfl (lv_at hl 2 rfl) ?_
      refine y_if_ne C xt2 dX8_readShape_61 (tgt := 73) (by decide) (fun c4 => ?_) (fun c4 => ?_)
      · have h := h.1 c4
        exact uX8_readShape_73 C hw hS xt3 (lv_sub hl [0, 3] rfl)  h
      · have h := h.2 c4
        exact uX8_readShape_64 C hw hS xt3 (lv_sub hl [0, 3] rfl)  h
set_option maxHeartbeats 4000000 in
set_option maxRecDepth 10000 in
theorem uX8_readShape_40 {p : Program} {l : Launch} {e : Env} {s : State} {m : MethodId} {args : Array Value} {below : List Frame} {meth : Method} {c : Code} {G : GG} {SB : St} (C : Cx p s m args meth c G RX8 cX8_readShape 4 (some .int)) {S : St} {H : Heap} {locs : List Loc} {ls : Array Slot}  {k : Int → St → Prop} (hw : Wd G ((injR SB) S) H) (hS : va_S (AG G) s.heap H locs) {xv1 : Int32} {x1 : Int} (xt1 : xv1.toInt = x1) {xv2 : Int32} {x2 : Int} (xt2 : xv2.toInt = x2) {sv0 : Int32} {s0 : Int} (st0 : sv0.toInt = s0) (hl : lv_has ls 4 [(0, .ref (G.2.2 1042)), (1, .int xv1), (2, .int xv2)])  (h : wX8_readShape_40 S x1 x2 s0 k) : W p l e (rmF 3 64) s m args below meth c H locs 0 0 (MQ below (QcI G (injR SB) k) args s 0 0 (AG G)) (F0 m 40 ls [.int sv0]) := by
  refine lv_istore_n (lv' := [(3, .int sv0), (0, .ref (G.2.2 1042)), (1, .int xv1), (2, .int xv2)]) C.1.1 C.1.2.1 dX8_readShape_40 rfl hl (by decide) rfl (fun ls hl => ?_)
  refine lv_iload_n C.1.1 C.1.2.1 dX8_readShape_41 rfl (lv_at hl 0 rfl) ?_
  refine y_iconst C dX8_readShape_42 ⟨by decide, by decide⟩ (fun v1 t1 => ?_)
  refine y_icmp_ne C st0 t1 dX8_readShape_43 (tgt := 51) (by decide) (fun c2 => ?_) (fun c2 => ?_)
  · have h := h.1 c2
    exact uX8_readShape_51 C hw hS xt1 xt2 st0 (lv_sub hl [1, 2, 3, 0] rfl)  h
  · have h := h.2 c2
    refine lv_iload_n C.1.1 C.1.2.1 dX8_readShape_46 rfl (lv_at hl 2 rfl) ?_
    refine y_iconst C dX8_readShape_47 ⟨by decide, by decide⟩ (fun v3 t3 => ?_)
    refine y_icmp_lt C xt1 t3 dX8_readShape_48 (tgt := 64) (by decide) (fun c4 => ?_) (fun c4 => ?_)
    · have h := h.1 c4
      exact uX8_readShape_64 C hw hS st0 (lv_sub hl [1, 0] rfl)  h
    · have h := h.2 c4
      exact uX8_readShape_51 C hw hS xt1 xt2 st0 (lv_sub hl [1, 2, 3, 0] rfl)  h
set_option maxHeartbeats 4000000 in
set_option maxRecDepth 10000 in
theorem uX8_readShape_0 {p : Program} {l : Launch} {e : Env} {s : State} {m : MethodId} {args : Array Value} {below : List Frame} {meth : Method} {c : Code} {G : GG} {SB : St} (C : Cx p s m args meth c G RX8 cX8_readShape 4 (some .int)) {S : St} {H : Heap} {locs : List Loc} {ls : Array Slot}  {k : Int → St → Prop} (hw : Wd G ((injR SB) S) H) (hS : va_S (AG G) s.heap H locs) {xv1 : Int32} {x1 : Int} (xt1 : xv1.toInt = x1) {xv2 : Int32} {x2 : Int} (xt2 : xv2.toInt = x2) (hl : lv_has ls 4 [(0, .ref (G.2.2 1042)), (1, .int xv1), (2, .int xv2)])  (h : wX8_readShape_0 S x1 x2 k) : W p l e (rmF 3 64) s m args below meth c H locs 0 0 (MQ below (QcI G (injR SB) k) args s 0 0 (AG G)) (F0 m 0 ls []) := by
  refine lv_aload_n C.1.1 C.1.2.1 dX8_readShape_0 rfl (lv_at hl 0 rfl) ?_
  refine y_bipush C dX8_readShape_1 ⟨by decide, by decide⟩ (fun v1 t1 => ?_)
  refine y_cVIp C (As := [.int v1]) (rest := []) ml_X8_199 (kX8_is l G SB S t1 h) (ocr SB) (T := TX8) (N := 60) rfl (by decide) ⟨(Nat.le_of_ble_eq_true rfl), (Nat.le_of_ble_eq_true rfl)⟩ hl.1 rfl rfl (Nat.le_of_ble_eq_true rfl) hw hS dX8_readShape_3 (fun v2 x_2 H locs t2 h hw hS => ?_)
  refine y_if_eq C t2 dX8_readShape_6 (tgt := 13) (by decide) (fun c3 => ?_) (fun c3 => ?_)
  · have h := h.1 c3
    refine lv_aload_n C.1.1 C.1.2.1 dX8_readShape_13 rfl (lv_at hl 0 rfl) ?_
    refine y_bipush C dX8_readShape_14 ⟨by decide, by decide⟩ (fun v4 t4 => ?_)
    refine y_cVIp C (As := [.int v4]) (rest := []) ml_X8_199 (kX8_is l G SB S t4 h) (ocr SB) (T := TX8) (N := 60) rfl (by decide) ⟨(Nat.le_of_ble_eq_true rfl), (Nat.le_of_ble_eq_true rfl)⟩ hl.1 rfl rfl (Nat.le_of_ble_eq_true rfl) hw hS dX8_readShape_16 (fun v5 x_5 H locs t5 h hw hS => ?_)
    refine y_if_eq C t5 dX8_readShape_19 (tgt := 26) (by decide) (fun c6 => ?_) (fun c6 => ?_)
    · have h := h.1 c6
      refine lv_aload_n C.1.1 C.1.2.1 dX8_readShape_26 rfl (lv_at hl 0 rfl) ?_
      refine y_bipush C dX8_readShape_27 ⟨by decide, by decide⟩ (fun v7 t7 => ?_)
      refine y_cVIp C (As := [.int v7]) (rest := []) ml_X8_199 (kX8_is l G SB S t7 h) (ocr SB) (T := TX8) (N := 60) rfl (by decide) ⟨(Nat.le_of_ble_eq_true rfl), (Nat.le_of_ble_eq_true rfl)⟩ hl.1 rfl rfl (Nat.le_of_ble_eq_true rfl) hw hS dX8_readShape_29 (fun v8 x_8 H locs t8 h hw hS => ?_)
      refine y_if_eq C t8 dX8_readShape_32 (tgt := 39) (by decide) (fun c9 => ?_) (fun c9 => ?_)
      · have h := h.1 c9
        refine y_iconst C dX8_readShape_39 ⟨by decide, by decide⟩ (fun v10 t10 => ?_)
        exact uX8_readShape_40 C hw hS xt1 xt2 t10 (lv_sub hl [0, 1, 2] rfl)  h
      · have h := h.2 c9
        refine y_iconst C dX8_readShape_35 ⟨by decide, by decide⟩ (fun v11 t11 => ?_)
        refine lv_goto (tgt := 40) C.1.1 C.1.2.1 dX8_readShape_36 (by decide) ?_
        exact uX8_readShape_40 C hw hS xt1 xt2 t11 (lv_sub hl [0, 1, 2] rfl)  h
    · have h := h.2 c6
      refine y_iconst C dX8_readShape_22 ⟨by decide, by decide⟩ (fun v12 t12 => ?_)
      refine lv_goto (tgt := 40) C.1.1 C.1.2.1 dX8_readShape_23 (by decide) ?_
      exact uX8_readShape_40 C hw hS xt1 xt2 t12 (lv_sub hl [0, 1, 2] rfl)  h
  · have h := h.2 c3
    refine y_iconst C dX8_readShape_9 ⟨by decide, by decide⟩ (fun v13 t13 => ?_)
    refine lv_goto (tgt := 40) C.1.1 C.1.2.1 dX8_readShape_10 (by decide) ?_
    exact uX8_readShape_40 C hw hS xt1 xt2 t13 (lv_sub hl [0, 1, 2] rfl)  h
theorem kX8_readShape (l : Launch) (G : GG) (SB S : St) {xv1 : Int32} {x1 : Int} (xt1 : xv1.toInt = x1) {xv2 : Int32} {x2 : Int} (xt2 : xv2.toInt = x2) {k : Int → St → Prop} (h : wX8_readShape S x1 x2 k) : CnI l yX8_readShape cX8_readShape 4 (some .int) 3 64 G (injR SB) [.ref (G.2.2 1042), .int xv1, .int xv2] S k :=
  cn_body (by decide +kernel) (Nat.le_of_ble_eq_true rfl) (fun p e s m args below meth c ls C hw hl => uX8_readShape_0 C hw va_S.rf xt1 xt2 (lv_sub hl [0, 1, 2] rfl) h)
set_option maxHeartbeats 4000000 in
set_option maxRecDepth 10000 in
theorem uX8_readResult_110 {p : Program} {l : Launch} {e : Env} {s : State} {m : MethodId} {args : Array Value} {below : List Frame} {meth : Method} {c : Code} {G : GG} {SB : St} (C : Cx p s m args meth c G RX8 cX8_readResult 5 (some .int)) {S : St} {H : Heap} {locs : List Loc} {ls : Array Slot}  {k : Int → St → Prop} (hw : Wd G ((injR SB) S) H) (hS : va_S (AG G) s.heap H locs) {xv3 : Int32} {x3 : Int} (xt3 : xv3.toInt = x3) (hl : lv_has ls 5 [(0, .ref (G.2.2 1042)), (3, .int xv3)])  (h : wX8_readResult_110 S x3 k) : W p l e (rmF 3 64) s m args below meth c H locs 0 0 (MQ below (QcI G (injR SB) k) args s 0 0 (AG G)) (F0 m 110 ls []) := by
  refine lv_aload_n C.1.1 C.1.2.1 dX8_readResult_110 rfl (lv_at hl 0 rfl) ?_
  refine y_cVIp C (As := []) (rest := []) ml_X8_261 (kX8_goesOn l G SB S  h) (ocr SB) (T := TX8) (N := 60) rfl (by decide) ⟨(Nat.le_of_ble_eq_true rfl), (Nat.le_of_ble_eq_true rfl)⟩ hl.1 rfl rfl (Nat.le_of_ble_eq_true rfl) hw hS dX8_readResult_111 (fun v1 x_1 H locs t1 h hw hS => ?_)
  refine y_if_eq C t1 dX8_readResult_114 (tgt := 121) (by decide) (fun c2 => ?_) (fun c2 => ?_)
  · have h := h.1 c2
    refine lv_iload_n C.1.1 C.1.2.1 dX8_readResult_121 rfl (lv_at hl 1 rfl) ?_
    exact y_iret C hw hS xt3 h dX8_readResult_122
  · have h := h.2 c2
    refine lv_aload_n C.1.1 C.1.2.1 dX8_readResult_117 rfl (lv_at hl 0 rfl) ?_
    refine y_cVV C (As := []) (rest := []) ml_X8_275 (kX8_past l G SB S  h) (ocr SB) (T := TX8) (N := 60) rfl (by decide) ⟨(Nat.le_of_ble_eq_true rfl), (Nat.le_of_ble_eq_true rfl)⟩ hl.1 rfl rfl (Nat.le_of_ble_eq_true rfl) hw hS dX8_readResult_118 (fun S_3 H locs h hw hS => ?_)
    refine lv_iload_n C.1.1 C.1.2.1 dX8_readResult_121 rfl (lv_at hl 1 rfl) ?_
    exact y_iret C hw hS xt3 h dX8_readResult_122
set_option maxHeartbeats 4000000 in
set_option maxRecDepth 10000 in
theorem uX8_readResult_97 {p : Program} {l : Launch} {e : Env} {s : State} {m : MethodId} {args : Array Value} {below : List Frame} {meth : Method} {c : Code} {G : GG} {SB : St} (C : Cx p s m args meth c G RX8 cX8_readResult 5 (some .int)) {S : St} {H : Heap} {locs : List Loc} {ls : Array Slot}  {k : Int → St → Prop} (hw : Wd G ((injR SB) S) H) (hS : va_S (AG G) s.heap H locs) {xv2 : Int32} {x2 : Int} (xt2 : xv2.toInt = x2) {xv3 : Int32} {x3 : Int} (xt3 : xv3.toInt = x3) (hl : lv_has ls 5 [(0, .ref (G.2.2 1042)), (2, .int xv2), (3, .int xv3)])  (h : wX8_readResult_97 S x2 x3 k) : W p l e (rmF 3 64) s m args below meth c H locs 0 0 (MQ below (QcI G (injR SB) k) args s 0 0 (AG G)) (F0 m 97 ls []) := by
  refine lv_iload_n C.1.1 C.1.2.1 dX8_readResult_97 rfl (lv_at hl 1 rfl) ?_
  refine y_if_eq C xt2 dX8_readResult_98 (tgt := 110) (by decide) (fun c1 => ?_) (fun c1 => ?_)
  · have h := h.1 c1
    exact uX8_readResult_110 C hw hS xt3 (lv_sub hl [0, 2] rfl)  h
  · have h := h.2 c1
    refine lv_aload_n C.1.1 C.1.2.1 dX8_readResult_101 rfl (lv_at hl 0 rfl) ?_
    refine y_iconst C dX8_readResult_102 ⟨by decide, by decide⟩ (fun v2 t2 => ?_)
    refine lv_aload_n C.1.1 C.1.2.1 dX8_readResult_103 rfl (lv_at hl 0 rfl) ?_
    refine y_getI C fl_X8_172 hw (ocr SB) rfl dX8_readResult_104 (fun v3 t3 => ?_)
    refine y_cVV C (As := [.int v2, .int v3]) (rest := []) ml_X8_195 (kX8_fails l G SB S t2 t3 h) (ocr SB) (T := TX8) (N := 60) rfl (by decide) ⟨(Nat.le_of_ble_eq_true rfl), (Nat.le_of_ble_eq_true rfl)⟩ hl.1 rfl rfl (Nat.le_of_ble_eq_true rfl) hw hS dX8_readResult_107 (fun S_4 H locs h hw hS => ?_)
    exact uX8_readResult_110 C hw hS xt3 (lv_sub hl [0, 2] rfl)  h
set_option maxHeartbeats 4000000 in
set_option maxRecDepth 10000 in
theorem uX8_readResult_85 {p : Program} {l : Launch} {e : Env} {s : State} {m : MethodId} {args : Array Value} {below : List Frame} {meth : Method} {c : Code} {G : GG} {SB : St} (C : Cx p s m args meth c G RX8 cX8_readResult 5 (some .int)) {S : St} {H : Heap} {locs : List Loc} {ls : Array Slot}  {k : Int → St → Prop} (hw : Wd G ((injR SB) S) H) (hS : va_S (AG G) s.heap H locs) {xv2 : Int32} {x2 : Int} (xt2 : xv2.toInt = x2) {xv3 : Int32} {x3 : Int} (xt3 : xv3.toInt = x3) (hl : lv_has ls 5 [(0, .ref (G.2.2 1042)), (2, .int xv2), (3, .int xv3)])  (h : wX8_readResult_85 S x2 x3 k) : W p l e (rmF 3 64) s m args below meth c H locs 0 0 (MQ below (QcI G (injR SB) k) args s 0 0 (AG G)) (F0 m 85 ls []) := by
  refine lv_goto (tgt := 97) C.1.1 C.1.2.1 dX8_readResult_85 (by decide) ?_
  exact uX8_readResult_97 C hw hS xt2 xt3 (lv_sub hl [0, 1, 2] rfl)  h
set_option maxHeartbeats 4000000 in
set_option maxRecDepth 10000 in
theorem uX8_readResult_71 {p : Program} {l : Launch} {e : Env} {s : State} {m : MethodId} {args : Array Value} {below : List Frame} {meth : Method} {c : Code} {G : GG} {SB : St} (C : Cx p s m args meth c G RX8 cX8_readResult 5 (some .int)) {S : St} {H : Heap} {locs : List Loc} {ls : Array Slot}  {k : Int → St → Prop} (hw : Wd G ((injR SB) S) H) (hS : va_S (AG G) s.heap H locs) {xv2 : Int32} {x2 : Int} (xt2 : xv2.toInt = x2) {sv0 : Int32} {s0 : Int} (st0 : sv0.toInt = s0) (hl : lv_has ls 5 [(0, .ref (G.2.2 1042)), (2, .int xv2)])  (h : wX8_readResult_71 S x2 s0 k) : W p l e (rmF 3 64) s m args below meth c H locs 0 0 (MQ below (QcI G (injR SB) k) args s 0 0 (AG G)) (F0 m 71 ls [.int sv0]) := by
  refine lv_istore_n (lv' := [(3, .int sv0), (0, .ref (G.2.2 1042)), (2, .int xv2)]) C.1.1 C.1.2.1 dX8_readResult_71 rfl hl (by decide) rfl (fun ls hl => ?_)
  refine lv_iload_n C.1.1 C.1.2.1 dX8_readResult_72 rfl (lv_at hl 0 rfl) ?_
  refine y_if_ge C st0 dX8_readResult_73 (tgt := 85) (by decide) (fun c1 => ?_) (fun c1 => ?_)
  · have h := h.1 c1
    exact uX8_readResult_85 C hw hS xt2 st0 (lv_sub hl [1, 2, 0] rfl)  h
  · have h := h.2 c1
    refine lv_aload_n C.1.1 C.1.2.1 dX8_readResult_76 rfl (lv_at hl 1 rfl) ?_
    refine y_iconst C dX8_readResult_77 ⟨by decide, by decide⟩ (fun v2 t2 => ?_)
    refine lv_aload_n C.1.1 C.1.2.1 dX8_readResult_78 rfl (lv_at hl 1 rfl) ?_
    refine y_getI C fl_X8_172 hw (ocr SB) rfl dX8_readResult_79 (fun v3 t3 => ?_)
    refine y_cVV C (As := [.int v2, .int v3]) (rest := []) ml_X8_195 (kX8_fails l G SB S t2 t3 h) (ocr SB) (T := TX8) (N := 60) rfl (by decide) ⟨(Nat.le_of_ble_eq_true rfl), (Nat.le_of_ble_eq_true rfl)⟩ hl.1 rfl rfl (Nat.le_of_ble_eq_true rfl) hw hS dX8_readResult_82 (fun S_4 H locs h hw hS => ?_)
    exact uX8_readResult_85 C hw hS xt2 st0 (lv_sub hl [1, 2, 0] rfl)  h
set_option maxHeartbeats 4000000 in
set_option maxRecDepth 10000 in
theorem uX8_readResult_29 {p : Program} {l : Launch} {e : Env} {s : State} {m : MethodId} {args : Array Value} {below : List Frame} {meth : Method} {c : Code} {G : GG} {SB : St} (C : Cx p s m args meth c G RX8 cX8_readResult 5 (some .int)) {S : St} {H : Heap} {locs : List Loc} {ls : Array Slot}  {k : Int → St → Prop} (hw : Wd G ((injR SB) S) H) (hS : va_S (AG G) s.heap H locs) {xv1 : Int32} {x1 : Int} (xt1 : xv1.toInt = x1) {xv2 : Int32} {x2 : Int} (xt2 : xv2.toInt = x2) {sv0 : Int32} {s0 : Int} (st0 : sv0.toInt = s0) (hl : lv_has ls 5 [(0, .ref (G.2.2 1042)), (1, .int xv1), (2, .int xv2)])  (h : wX8_readResult_29 S x1 x2 s0 k) : W p l e (rmF 3 64) s m args below meth c H locs 0 0 (MQ below (QcI G (injR SB) k) args s 0 0 (AG G)) (F0 m 29 ls [.int sv0]) := by
  refine lv_istore_n (lv' := [(3, .int sv0), (0, .ref (G.2.2 1042)), (1, .int xv1), (2, .int xv2)]) C.1.1 C.1.2.1 dX8_readResult_29 rfl hl (by decide) rfl (fun ls hl => ?_)
  refine lv_aload_n C.1.1 C.1.2.1 dX8_readResult_30 rfl (lv_at hl 1 rfl) ?_
  refine y_iconst C dX8_readResult_31 ⟨by decide, by decide⟩ (fun v1 t1 => ?_)
  refine y_cVIp C (As := [.int v1]) (rest := []) ml_X8_199 (kX8_is l G SB S t1 h) (ocr SB) (T := TX8) (N := 60) rfl (by decide) ⟨(Nat.le_of_ble_eq_true rfl), (Nat.le_of_ble_eq_true rfl)⟩ hl.1 rfl rfl (Nat.le_of_ble_eq_true rfl) hw hS dX8_readResult_32 (fun v2 x_2 H locs t2 h hw hS => ?_)
  refine y_if_eq C t2 dX8_readResult_35 (tgt := 88) (by decide) (fun c3 => ?_) (fun c3 => ?_)
  · have h := h.1 c3
    refine lv_iload_n C.1.1 C.1.2.1 dX8_readResult_88 rfl (lv_at hl 0 rfl) ?_
    refine y_iconst C dX8_readResult_89 ⟨by decide, by decide⟩ (fun v4 t4 => ?_)
    refine y_icmp_ne C st0 t4 dX8_readResult_90 (tgt := 97) (by decide) (fun c5 => ?_) (fun c5 => ?_)
    · have h := h.1 c5
      exact uX8_readResult_97 C hw hS xt2 st0 (lv_sub hl [1, 3, 0] rfl)  h
    · have h := h.2 c5
      refine lv_aload_n C.1.1 C.1.2.1 dX8_readResult_93 rfl (lv_at hl 1 rfl) ?_
      refine y_cVV C (As := []) (rest := []) ml_X8_205 (kX8_odd l G SB S  h) (ocr SB) (T := TX8) (N := 60) rfl (by decide) ⟨(Nat.le_of_ble_eq_true rfl), (Nat.le_of_ble_eq_true rfl)⟩ hl.1 rfl rfl (Nat.le_of_ble_eq_true rfl) hw hS dX8_readResult_94 (fun S_6 H locs h hw hS => ?_)
      exact uX8_readResult_97 C hw hS xt2 st0 (lv_sub hl [1, 3, 0] rfl)  h
  · have h := h.2 c3
    refine lv_aload_n C.1.1 C.1.2.1 dX8_readResult_38 rfl (lv_at hl 1 rfl) ?_
    refine lv_aload_n C.1.1 C.1.2.1 dX8_readResult_39 rfl (lv_at hl 1 rfl) ?_
    refine y_getJ C fl_X8_182 hw (ocr SB) rfl dX8_readResult_40 (fun v7 t7 => ?_)
    refine lv_iload_n C.1.1 C.1.2.1 dX8_readResult_43 rfl (lv_at hl 2 rfl) ?_
    refine y_cVIp C (As := [.long v7, .int xv1]) (rest := []) ml_X8_239 (kX8_varNamed l G SB S t7 xt1 h) (ocr SB) (T := TX8) (N := 60) rfl (by decide) ⟨(Nat.le_of_ble_eq_true rfl), (Nat.le_of_ble_eq_true rfl)⟩ hl.1 rfl rfl (Nat.le_of_ble_eq_true rfl) hw hS dX8_readResult_44 (fun v8 x_8 H locs t8 h hw hS => ?_)
    refine lv_istore (lv' := [(4, .int v8), (3, .int sv0), (0, .ref (G.2.2 1042)), (1, .int xv1), (2, .int xv2)]) C.1.1 C.1.2.1 dX8_readResult_47 hl (by decide) rfl (fun ls hl => ?_)
    refine lv_iload C.1.1 C.1.2.1 dX8_readResult_49 (lv_at hl 0 rfl) ?_
    refine y_if_lt C t8 dX8_readResult_51 (tgt := 62) (by decide) (fun c9 => ?_) (fun c9 => ?_)
    · have h := h.1 c9
      refine lv_aload_n C.1.1 C.1.2.1 dX8_readResult_62 rfl (lv_at hl 2 rfl) ?_
      refine lv_aload_n C.1.1 C.1.2.1 dX8_readResult_63 rfl (lv_at hl 2 rfl) ?_
      refine y_getJ C fl_X8_182 hw (ocr SB) rfl dX8_readResult_64 (fun v10 t10 => ?_)
      refine lv_iload_n C.1.1 C.1.2.1 dX8_readResult_67 rfl (lv_at hl 3 rfl) ?_
      refine y_cVIp C (As := [.long v10, .int xv1]) (rest := []) ml_X8_243 (kX8_seenType l G SB S t10 xt1 h) (ocr SB) (T := TX8) (N := 60) rfl (by decide) ⟨(Nat.le_of_ble_eq_true rfl), (Nat.le_of_ble_eq_true rfl)⟩ hl.1 rfl rfl (Nat.le_of_ble_eq_true rfl) hw hS dX8_readResult_68 (fun v11 x_11 H locs t11 h hw hS => ?_)
      exact uX8_readResult_71 C hw hS xt2 t11 (lv_sub hl [2, 4] rfl)  h
    · have h := h.2 c9
      refine y_bipush C dX8_readResult_54 ⟨by decide, by decide⟩ (fun v12 t12 => ?_)
      refine lv_iload C.1.1 C.1.2.1 dX8_readResult_56 (lv_at hl 0 rfl) ?_
      refine y_iadd C t12 t8 dX8_readResult_58 (fun v13 t13 => ?_)
      refine lv_goto (tgt := 71) C.1.1 C.1.2.1 dX8_readResult_59 (by decide) ?_
      exact uX8_readResult_71 C hw hS xt2 t13 (lv_sub hl [2, 4] rfl)  h
set_option maxHeartbeats 4000000 in
set_option maxRecDepth 10000 in
theorem uX8_readResult_0 {p : Program} {l : Launch} {e : Env} {s : State} {m : MethodId} {args : Array Value} {below : List Frame} {meth : Method} {c : Code} {G : GG} {SB : St} (C : Cx p s m args meth c G RX8 cX8_readResult 5 (some .int)) {S : St} {H : Heap} {locs : List Loc} {ls : Array Slot}  {k : Int → St → Prop} (hw : Wd G ((injR SB) S) H) (hS : va_S (AG G) s.heap H locs) {xv1 : Int32} {x1 : Int} (xt1 : xv1.toInt = x1) {xv2 : Int32} {x2 : Int} (xt2 : xv2.toInt = x2) (hl : lv_has ls 5 [(0, .ref (G.2.2 1042)), (1, .int xv1), (2, .int xv2)])  (h : wX8_readResult_0 S x1 x2 k) : W p l e (rmF 3 64) s m args below meth c H locs 0 0 (MQ below (QcI G (injR SB) k) args s 0 0 (AG G)) (F0 m 0 ls []) := by
  refine lv_aload_n C.1.1 C.1.2.1 dX8_readResult_0 rfl (lv_at hl 0 rfl) ?_
  refine y_bipush C dX8_readResult_1 ⟨by decide, by decide⟩ (fun v1 t1 => ?_)
  refine y_cVIp C (As := [.int v1]) (rest := []) ml_X8_199 (kX8_is l G SB S t1 h) (ocr SB) (T := TX8) (N := 60) rfl (by decide) ⟨(Nat.le_of_ble_eq_true rfl), (Nat.le_of_ble_eq_true rfl)⟩ hl.1 rfl rfl (Nat.le_of_ble_eq_true rfl) hw hS dX8_readResult_3 (fun v2 x_2 H locs t2 h hw hS => ?_)
  refine y_if_eq C t2 dX8_readResult_6 (tgt := 14) (by decide) (fun c3 => ?_) (fun c3 => ?_)
  · have h := h.1 c3
    refine lv_aload_n C.1.1 C.1.2.1 dX8_readResult_14 rfl (lv_at hl 0 rfl) ?_
    refine y_bipush C dX8_readResult_15 ⟨by decide, by decide⟩ (fun v4 t4 => ?_)
    refine y_cVIp C (As := [.int v4]) (rest := []) ml_X8_199 (kX8_is l G SB S t4 h) (ocr SB) (T := TX8) (N := 60) rfl (by decide) ⟨(Nat.le_of_ble_eq_true rfl), (Nat.le_of_ble_eq_true rfl)⟩ hl.1 rfl rfl (Nat.le_of_ble_eq_true rfl) hw hS dX8_readResult_17 (fun v5 x_5 H locs t5 h hw hS => ?_)
    refine y_if_eq C t5 dX8_readResult_20 (tgt := 28) (by decide) (fun c6 => ?_) (fun c6 => ?_)
    · have h := h.1 c6
      refine y_iconst C dX8_readResult_28 ⟨by decide, by decide⟩ (fun v7 t7 => ?_)
      exact uX8_readResult_29 C hw hS xt1 xt2 t7 (lv_sub hl [0, 1, 2] rfl)  h
    · have h := h.2 c6
      refine y_bipush C dX8_readResult_23 ⟨by decide, by decide⟩ (fun v8 t8 => ?_)
      refine lv_goto (tgt := 29) C.1.1 C.1.2.1 dX8_readResult_25 (by decide) ?_
      exact uX8_readResult_29 C hw hS xt1 xt2 t8 (lv_sub hl [0, 1, 2] rfl)  h
  · have h := h.2 c3
    refine y_bipush C dX8_readResult_9 ⟨by decide, by decide⟩ (fun v9 t9 => ?_)
    refine lv_goto (tgt := 29) C.1.1 C.1.2.1 dX8_readResult_11 (by decide) ?_
    exact uX8_readResult_29 C hw hS xt1 xt2 t9 (lv_sub hl [0, 1, 2] rfl)  h
theorem kX8_readResult (l : Launch) (G : GG) (SB S : St) {xv1 : Int32} {x1 : Int} (xt1 : xv1.toInt = x1) {xv2 : Int32} {x2 : Int} (xt2 : xv2.toInt = x2) {k : Int → St → Prop} (h : wX8_readResult S x1 x2 k) : CnI l yX8_readResult cX8_readResult 5 (some .int) 3 64 G (injR SB) [.ref (G.2.2 1042), .int xv1, .int xv2] S k :=
  cn_body (by decide +kernel) (Nat.le_of_ble_eq_true rfl) (fun p e s m args below meth c ls C hw hl => uX8_readResult_0 C hw va_S.rf xt1 xt2 (lv_sub hl [0, 1, 2] rfl) h)
set_option maxHeartbeats 4000000 in
set_option maxRecDepth 10000 in
theorem uX8_readKind_0 {p : Program} {l : Launch} {e : Env} {s : State} {m : MethodId} {args : Array Value} {below : List Frame} {meth : Method} {c : Code} {G : GG} {SB : St} (C : Cx p s m args meth c G RX8 cX8_readKind 2 (some .int)) {S : St} {H : Heap} {locs : List Loc} {ls : Array Slot}  {k : Int → St → Prop} (hw : Wd G ((injR SB) S) H) (hS : va_S (AG G) s.heap H locs) {xv1 : Int32} {x1 : Int} (xt1 : xv1.toInt = x1) (hl : lv_has ls 2 [(0, .ref (G.2.2 1042)), (1, .int xv1)])  (h : wX8_readKind_0 S x1 k) : W p l e (rmF 3 70) s m args below meth c H locs 0 0 (MQ below (QcI G (injR SB) k) args s 0 0 (AG G)) (F0 m 0 ls []) := by
  refine lv_aload_n C.1.1 C.1.2.1 dX8_readKind_0 rfl (lv_at hl 0 rfl) ?_
  refine y_bipush C dX8_readKind_1 ⟨by decide, by decide⟩ (fun v1 t1 => ?_)
  refine y_cVIp C (As := [.int v1]) (rest := []) ml_X8_199 (kX8_is l G SB S t1 h) (ocr SB) (T := TX8) (N := 60) rfl (by decide) ⟨(Nat.le_of_ble_eq_true rfl), (Nat.le_of_ble_eq_true rfl)⟩ hl.1 rfl rfl (Nat.le_of_ble_eq_true rfl) hw hS dX8_readKind_3 (fun v2 x_2 H locs t2 h hw hS => ?_)
  refine y_if_eq C t2 dX8_readKind_6 (tgt := 16) (by decide) (fun c3 => ?_) (fun c3 => ?_)
  · have h := h.1 c3
    refine lv_aload_n C.1.1 C.1.2.1 dX8_readKind_16 rfl (lv_at hl 0 rfl) ?_
    refine lv_iload_n C.1.1 C.1.2.1 dX8_readKind_17 rfl (lv_at hl 1 rfl) ?_
    refine y_cVI C (As := [.int xv1]) (rest := []) ml_X8_265 (kX8_takeNamed l G SB S xt1 h) (ocr SB) (T := TX8) (N := 60) rfl (by decide) ⟨(Nat.le_of_ble_eq_true rfl), (Nat.le_of_ble_eq_true rfl)⟩ hl.1 rfl rfl (Nat.le_of_ble_eq_true rfl) hw hS dX8_readKind_18 (fun v4 x_4 S_4 H locs t4 h hw hS => ?_)
    exact y_iret C hw hS t4 h dX8_readKind_21
  · have h := h.2 c3
    refine lv_aload_n C.1.1 C.1.2.1 dX8_readKind_9 rfl (lv_at hl 0 rfl) ?_
    refine y_cVV C (As := []) (rest := []) ml_X8_202 (kX8_next l G SB S  h) (ocr SB) (T := TX8) (N := 60) rfl (by decide) ⟨(Nat.le_of_ble_eq_true rfl), (Nat.le_of_ble_eq_true rfl)⟩ hl.1 rfl rfl (Nat.le_of_ble_eq_true rfl) hw hS dX8_readKind_10 (fun S_5 H locs h hw hS => ?_)
    refine y_bipush C dX8_readKind_13 ⟨by decide, by decide⟩ (fun v6 t6 => ?_)
    exact y_iret C hw hS t6 h dX8_readKind_15
theorem kX8_readKind (l : Launch) (G : GG) (SB S : St) {xv1 : Int32} {x1 : Int} (xt1 : xv1.toInt = x1) {k : Int → St → Prop} (h : wX8_readKind S x1 k) : CnI l yX8_readKind cX8_readKind 2 (some .int) 3 70 G (injR SB) [.ref (G.2.2 1042), .int xv1] S k :=
  cn_body (by decide +kernel) (Nat.le_of_ble_eq_true rfl) (fun p e s m args below meth c ls C hw hl => uX8_readKind_0 C hw va_S.rf xt1 (lv_sub hl [0, 1] rfl) h)
set_option maxHeartbeats 4000000 in
set_option maxRecDepth 10000 in
theorem uX8_readMember_257 {p : Program} {l : Launch} {e : Env} {s : State} {m : MethodId} {args : Array Value} {below : List Frame} {meth : Method} {c : Code} {G : GG} {SB : St} (C : Cx p s m args meth c G RX8 cX8_readMember 10 none) {S : St} {H : Heap} {locs : List Loc} {ls : Array Slot} {P205 : Int → Int → St → Prop} {k : St → Prop} (hw : Wd G ((injR SB) S) H) (hS : va_S (AG G) s.heap H locs) {xv1 : Int32} {x1 : Int} (xt1 : xv1.toInt = x1) {xv2 : Int32} {x2 : Int} (xt2 : xv2.toInt = x2) {xv3 : Int32} {x3 : Int} (xt3 : xv3.toInt = x3) {xv4 : Int32} {x4 : Int} (xt4 : xv4.toInt = x4) {xv5 : Int32} {x5 : Int} (xt5 : xv5.toInt = x5) {xv6 : Int32} {x6 : Int} (xt6 : xv6.toInt = x6) {xv7 : Int32} {x7 : Int} (xt7 : xv7.toInt = x7) {xv8 : Int32} {x8 : Int} (xt8 : xv8.toInt = x8) {sv0 : Int32} {s0 : Int} (st0 : sv0.toInt = s0) (hl : lv_has ls 10 [(0, .ref (G.2.2 1042)), (1, .int xv1), (2, .int xv2), (3, .int xv3), (4, .int xv4), (5, .int xv5), (6, .int xv6), (7, .int xv7), (8, .int xv8)]) (hP205 : ∀ {H : Heap} {locs : List Loc} {ls : Array Slot} {Sy : St} {yv8 : Int32} {y8 : Int} {yv9 : Int32} {y9 : Int}, yv8.toInt = y8 → yv9.toInt = y9 → Wd G ((injR SB) Sy) H → va_S (AG G) s.heap H locs → lv_has ls 10 [(0, .ref (G.2.2 1042)), (1, .int xv1), (2, .int xv2), (3, .int xv3), (4, .int xv4), (5, .int xv5), (6, .int xv6), (7, .int xv7), (8, .int yv8), (9, .int yv9)] → P205 y8 y9 Sy → W p l e (rmF 4 91) s m args below meth c H locs 0 0 (MQ below (QcV G (injR SB) k) args s 0 0 (AG G)) (F0 m 205 ls [])) (h : wX8_readMember_257 S x1 x2 x3 x4 x5 x6 x7 x8 s0 P205 k) : W p l e (rmF 4 91) s m args below meth c H locs 0 0 (MQ below (QcV G (injR SB) k) args s 0 0 (AG G)) (F0 m 257 ls [.int sv0]) := by
  refine lv_istore (lv' := [(9, .int sv0), (0, .ref (G.2.2 1042)), (1, .int xv1), (2, .int xv2), (3, .int xv3), (4, .int xv4), (5, .int xv5), (6, .int xv6), (7, .int xv7), (8, .int xv8)]) C.1.1 C.1.2.1 dX8_readMember_257 hl (by decide) rfl (fun ls hl => ?_)
  refine lv_iload C.1.1 C.1.2.1 dX8_readMember_259 (lv_at hl 0 rfl) ?_
  refine y_if_eq C st0 dX8_readMember_261 (tgt := 205) (by decide) (fun c1 => ?_) (fun c1 => ?_)
  · have h := h.1 c1
    exact hP205 xt8 st0 hw hS (lv_sub hl [1, 2, 3, 4, 5, 6, 7, 8, 9, 0] rfl) h
  · have h := h.2 c1
    refine lv_aload_n C.1.1 C.1.2.1 dX8_readMember_264 rfl (lv_at hl 1 rfl) ?_
    refine y_cVV C (As := []) (rest := []) ml_X8_202 (kX8_next l G SB S  h) (ocr SB) (T := TX8) (N := 60) rfl (by decide) ⟨(Nat.le_of_ble_eq_true rfl), (Nat.le_of_ble_eq_true rfl)⟩ hl.1 rfl rfl (Nat.le_of_ble_eq_true rfl) hw hS dX8_readMember_265 (fun S_2 H locs h hw hS => ?_)
    refine lv_goto (tgt := 205) C.1.1 C.1.2.1 dX8_readMember_268 (by decide) ?_
    exact hP205 xt8 st0 hw hS (lv_sub hl [1, 2, 3, 4, 5, 6, 7, 8, 9, 0] rfl) h
set_option maxHeartbeats 4000000 in
set_option maxRecDepth 10000 in
theorem uX8_readMember_256 {p : Program} {l : Launch} {e : Env} {s : State} {m : MethodId} {args : Array Value} {below : List Frame} {meth : Method} {c : Code} {G : GG} {SB : St} (C : Cx p s m args meth c G RX8 cX8_readMember 10 none) {S : St} {H : Heap} {locs : List Loc} {ls : Array Slot} {P205 : Int → Int → St → Prop} {k : St → Prop} (hw : Wd G ((injR SB) S) H) (hS : va_S (AG G) s.heap H locs) {xv1 : Int32} {x1 : Int} (xt1 : xv1.toInt = x1) {xv2 : Int32} {x2 : Int} (xt2 : xv2.toInt = x2) {xv3 : Int32} {x3 : Int} (xt3 : xv3.toInt = x3) {xv4 : Int32} {x4 : Int} (xt4 : xv4.toInt = x4) {xv5 : Int32} {x5 : Int} (xt5 : xv5.toInt = x5) {xv6 : Int32} {x6 : Int} (xt6 : xv6.toInt = x6) {xv7 : Int32} {x7 : Int} (xt7 : xv7.toInt = x7) {xv8 : Int32} {x8 : Int} (xt8 : xv8.toInt = x8) (hl : lv_has ls 10 [(0, .ref (G.2.2 1042)), (1, .int xv1), (2, .int xv2), (3, .int xv3), (4, .int xv4), (5, .int xv5), (6, .int xv6), (7, .int xv7), (8, .int xv8)]) (hP205 : ∀ {H : Heap} {locs : List Loc} {ls : Array Slot} {Sy : St} {yv8 : Int32} {y8 : Int} {yv9 : Int32} {y9 : Int}, yv8.toInt = y8 → yv9.toInt = y9 → Wd G ((injR SB) Sy) H → va_S (AG G) s.heap H locs → lv_has ls 10 [(0, .ref (G.2.2 1042)), (1, .int xv1), (2, .int xv2), (3, .int xv3), (4, .int xv4), (5, .int xv5), (6, .int xv6), (7, .int xv7), (8, .int yv8), (9, .int yv9)] → P205 y8 y9 Sy → W p l e (rmF 4 91) s m args below meth c H locs 0 0 (MQ below (QcV G (injR SB) k) args s 0 0 (AG G)) (F0 m 205 ls [])) (h : wX8_readMember_256 S x1 x2 x3 x4 x5 x6 x7 x8 P205 k) : W p l e (rmF 4 91) s m args below meth c H locs 0 0 (MQ below (QcV G (injR SB) k) args s 0 0 (AG G)) (F0 m 256 ls []) := by
  refine y_iconst C dX8_readMember_256 ⟨by decide, by decide⟩ (fun v1 t1 => ?_)
  exact uX8_readMember_257 C hw hS xt1 xt2 xt3 xt4 xt5 xt6 xt7 xt8 t1 (lv_sub hl [0, 1, 2, 3, 4, 5, 6, 7, 8] rfl) hP205 h
set_option maxHeartbeats 4000000 in
set_option maxRecDepth 10000 in
theorem uX8_readMember_349 {p : Program} {l : Launch} {e : Env} {s : State} {m : MethodId} {args : Array Value} {below : List Frame} {meth : Method} {c : Code} {G : GG} {SB : St} (C : Cx p s m args meth c G RX8 cX8_readMember 10 none) {S : St} {H : Heap} {locs : List Loc} {ls : Array Slot}  {k : St → Prop} (hw : Wd G ((injR SB) S) H) (hS : va_S (AG G) s.heap H locs) {xv2 : Int32} {x2 : Int} (xt2 : xv2.toInt = x2) {xv6 : Int32} {x6 : Int} (xt6 : xv6.toInt = x6) {xv7 : Int32} {x7 : Int} (xt7 : xv7.toInt = x7) {xv8 : Int32} {x8 : Int} (xt8 : xv8.toInt = x8) {sv1 : Int32} {s1 : Int} (st1 : sv1.toInt = s1) {sv2 : Int32} {s2 : Int} (st2 : sv2.toInt = s2) (hl : lv_has ls 10 [(0, .ref (G.2.2 1042)), (2, .int xv2), (6, .int xv6), (7, .int xv7), (8, .int xv8)])  (h : wX8_readMember_349 S x2 x6 x7 x8 s1 s2 k) : W p l e (rmF 4 91) s m args below meth c H locs 0 0 (MQ below (QcV G (injR SB) k) args s 0 0 (AG G)) (F0 m 349 ls [.int sv2, .int sv1, .ref (G.2.2 (1073))]) := by
  obtain ⟨b1, h⟩ := h
  obtain ⟨S_1, e1⟩ : ∃ z : St, z = up S 31 s1 s2 := ⟨_, rfl⟩
  have h := h S_1 e1
  refine y_iast C hw hS (acr_40 SB) st1 st2 b1 dX8_readMember_349 (fun H locs hw hS => ?_)
  have hw : Wd G ((injR SB) S_1) H := by rw [e1]; exact hw
  refine lv_aload_n C.1.1 C.1.2.1 dX8_readMember_350 rfl (lv_at hl 0 rfl) ?_
  refine y_getA C fl_X8_134 hw (ocr SB) rfl (o := 32) rfl dX8_readMember_351 ?_
  refine lv_iload C.1.1 C.1.2.1 dX8_readMember_354 (lv_at hl 3 rfl) ?_
  refine lv_iload C.1.1 C.1.2.1 dX8_readMember_356 (lv_at hl 4 rfl) ?_
  obtain ⟨b3, h⟩ := h
  obtain ⟨S_3, e3⟩ : ∃ z : St, z = up S_1 32 x7 x8 := ⟨_, rfl⟩
  have h := h S_3 e3
  refine y_iast C hw hS (acr_41 SB) xt7 xt8 b3 dX8_readMember_358 (fun H locs hw hS => ?_)
  have hw : Wd G ((injR SB) S_3) H := by rw [e3]; exact hw
  refine lv_aload_n C.1.1 C.1.2.1 dX8_readMember_359 rfl (lv_at hl 0 rfl) ?_
  refine y_getA C fl_X8_137 hw (ocr SB) rfl (o := 33) rfl dX8_readMember_360 ?_
  refine y_iconst C dX8_readMember_363 ⟨by decide, by decide⟩ (fun v5 t5 => ?_)
  refine lv_iload C.1.1 C.1.2.1 dX8_readMember_364 (lv_at hl 3 rfl) ?_
  refine y_imul C t5 xt7 dX8_readMember_366 (fun v6 t6 => ?_)
  refine y_iconst C dX8_readMember_367 ⟨by decide, by decide⟩ (fun v7 t7 => ?_)
  refine y_iadd C t6 t7 dX8_readMember_368 (fun v8 t8 => ?_)
  refine lv_iload C.1.1 C.1.2.1 dX8_readMember_369 (lv_at hl 2 rfl) ?_
  obtain ⟨b9, h⟩ := h
  obtain ⟨S_9, e9⟩ : ∃ z : St, z = up S_3 33 (w32 (w32 (3 * x7) + 2)) x6 := ⟨_, rfl⟩
  have h := h S_9 e9
  refine y_iast C hw hS (acr_42 SB) t8 xt6 b9 dX8_readMember_371 (fun H locs hw hS => ?_)
  have hw : Wd G ((injR SB) S_9) H := by rw [e9]; exact hw
  refine lv_aload_n C.1.1 C.1.2.1 dX8_readMember_372 rfl (lv_at hl 0 rfl) ?_
  refine y_getA C fl_X8_49 hw (ocr SB) rfl (o := 4) rfl dX8_readMember_373 ?_
  refine lv_aload_n C.1.1 C.1.2.1 dX8_readMember_376 rfl (lv_at hl 0 rfl) ?_
  refine y_getI C fl_X8_208 hw (ocr SB) rfl dX8_readMember_377 (fun v11 t11 => ?_)
  refine lv_dup2_11 C.1.1 C.1.2.1 dX8_readMember_380 rfl rfl ?_
  obtain ⟨b12, h⟩ := h
  refine y_iald C hw (acr_13 SB) t11 b12 dX8_readMember_381 (fun v12 t12 => ?_)
  refine y_iconst C dX8_readMember_382 ⟨by decide, by decide⟩ (fun v13 t13 => ?_)
  refine y_iadd C t12 t13 dX8_readMember_383 (fun v14 t14 => ?_)
  obtain ⟨b15, h⟩ := h
  obtain ⟨S_15, e15⟩ : ∃ z : St, z = up S_9 4 (S_9 0 10) (w32 (S_9 4 (S_9 0 10) + 1)) := ⟨_, rfl⟩
  have h := h S_15 e15
  refine y_iast C hw hS (acr_13 SB) t11 t14 b15 dX8_readMember_384 (fun H locs hw hS => ?_)
  have hw : Wd G ((injR SB) S_15) H := by rw [e15]; exact hw
  refine lv_aload_n C.1.1 C.1.2.1 dX8_readMember_385 rfl (lv_at hl 0 rfl) ?_
  refine y_getA C fl_X8_113 hw (ocr SB) rfl (o := 25) rfl dX8_readMember_386 ?_
  refine lv_iload_n C.1.1 C.1.2.1 dX8_readMember_389 rfl (lv_at hl 1 rfl) ?_
  refine lv_dup2_11 C.1.1 C.1.2.1 dX8_readMember_390 rfl rfl ?_
  obtain ⟨b17, h⟩ := h
  refine y_iald C hw (acr_34 SB) xt2 b17 dX8_readMember_391 (fun v17 t17 => ?_)
  refine y_iconst C dX8_readMember_392 ⟨by decide, by decide⟩ (fun v18 t18 => ?_)
  refine y_iadd C t17 t18 dX8_readMember_393 (fun v19 t19 => ?_)
  obtain ⟨b20, h⟩ := h
  obtain ⟨S_20, e20⟩ : ∃ z : St, z = up S_15 25 x2 (w32 (S_15 25 x2 + 1)) := ⟨_, rfl⟩
  have h := h S_20 e20
  refine y_iast C hw hS (acr_34 SB) xt2 t19 b20 dX8_readMember_394 (fun H locs hw hS => ?_)
  have hw : Wd G ((injR SB) S_20) H := by rw [e20]; exact hw
  exact y_vret C hw hS h dX8_readMember_395
set_option maxHeartbeats 4000000 in
set_option maxRecDepth 10000 in
theorem uX8_readMember_323 {p : Program} {l : Launch} {e : Env} {s : State} {m : MethodId} {args : Array Value} {below : List Frame} {meth : Method} {c : Code} {G : GG} {SB : St} (C : Cx p s m args meth c G RX8 cX8_readMember 10 none) {S : St} {H : Heap} {locs : List Loc} {ls : Array Slot}  {k : St → Prop} (hw : Wd G ((injR SB) S) H) (hS : va_S (AG G) s.heap H locs) {xv2 : Int32} {x2 : Int} (xt2 : xv2.toInt = x2) {xv3 : Int32} {x3 : Int} (xt3 : xv3.toInt = x3) {xv5 : Int32} {x5 : Int} (xt5 : xv5.toInt = x5) {xv6 : Int32} {x6 : Int} (xt6 : xv6.toInt = x6) {xv7 : Int32} {x7 : Int} (xt7 : xv7.toInt = x7) {xv8 : Int32} {x8 : Int} (xt8 : xv8.toInt = x8) {sv1 : Int32} {s1 : Int} (st1 : sv1.toInt = s1) {sv2 : Int32} {s2 : Int} (st2 : sv2.toInt = s2) (hl : lv_has ls 10 [(0, .ref (G.2.2 1042)), (2, .int xv2), (3, .int xv3), (5, .int xv5), (6, .int xv6), (7, .int xv7), (8, .int xv8)])  (h : wX8_readMember_323 S x2 x3 x5 x6 x7 x8 s1 s2 k) : W p l e (rmF 4 91) s m args below meth c H locs 0 0 (MQ below (QcV G (injR SB) k) args s 0 0 (AG G)) (F0 m 323 ls [.int sv2, .int sv1, .ref (G.2.2 (1072))]) := by
  obtain ⟨b1, h⟩ := h
  obtain ⟨S_1, e1⟩ : ∃ z : St, z = up S 30 s1 s2 := ⟨_, rfl⟩
  have h := h S_1 e1
  refine y_iast C hw hS (acr_39 SB) st1 st2 b1 dX8_readMember_323 (fun H locs hw hS => ?_)
  have hw : Wd G ((injR SB) S_1) H := by rw [e1]; exact hw
  refine lv_aload_n C.1.1 C.1.2.1 dX8_readMember_324 rfl (lv_at hl 0 rfl) ?_
  refine y_getA C fl_X8_131 hw (ocr SB) rfl (o := 31) rfl dX8_readMember_325 ?_
  refine lv_iload C.1.1 C.1.2.1 dX8_readMember_328 (lv_at hl 5 rfl) ?_
  refine lv_iload C.1.1 C.1.2.1 dX8_readMember_330 (lv_at hl 3 rfl) ?_
  refine y_if_lt C xt5 dX8_readMember_332 (tgt := 340) (by decide) (fun c3 => ?_) (fun c3 => ?_)
  · have h := h.1 c3
    refine lv_iload_n C.1.1 C.1.2.1 dX8_readMember_340 rfl (lv_at hl 2 rfl) ?_
    refine y_if_eq C xt3 dX8_readMember_341 (tgt := 348) (by decide) (fun c4 => ?_) (fun c4 => ?_)
    · have h := h.1 c4
      refine y_iconst C dX8_readMember_348 ⟨by decide, by decide⟩ (fun v5 t5 => ?_)
      exact uX8_readMember_349 C hw hS xt2 xt6 xt7 xt8 xt7 t5 (lv_sub hl [0, 1, 4, 5, 6] rfl)  h
    · have h := h.2 c4
      refine y_iconst C dX8_readMember_344 ⟨by decide, by decide⟩ (fun v6 t6 => ?_)
      refine lv_goto (tgt := 349) C.1.1 C.1.2.1 dX8_readMember_345 (by decide) ?_
      exact uX8_readMember_349 C hw hS xt2 xt6 xt7 xt8 xt7 t6 (lv_sub hl [0, 1, 4, 5, 6] rfl)  h
  · have h := h.2 c3
    refine lv_iload C.1.1 C.1.2.1 dX8_readMember_335 (lv_at hl 3 rfl) ?_
    refine lv_goto (tgt := 349) C.1.1 C.1.2.1 dX8_readMember_337 (by decide) ?_
    exact uX8_readMember_349 C hw hS xt2 xt6 xt7 xt8 xt7 xt5 (lv_sub hl [0, 1, 4, 5, 6] rfl)  h
set_option maxHeartbeats 4000000 in
set_option maxRecDepth 10000 in
theorem uX8_readMember_271 {p : Program} {l : Launch} {e : Env} {s : State} {m : MethodId} {args : Array Value} {below : List Frame} {meth : Method} {c : Code} {G : GG} {SB : St} (C : Cx p s m args meth c G RX8 cX8_readMember 10 none) {S : St} {H : Heap} {locs : List Loc} {ls : Array Slot}  {k : St → Prop} (hw : Wd G ((injR SB) S) H) (hS : va_S (AG G) s.heap H locs) {xv1 : Int32} {x1 : Int} (xt1 : xv1.toInt = x1) {xv2 : Int32} {x2 : Int} (xt2 : xv2.toInt = x2) {xv3 : Int32} {x3 : Int} (xt3 : xv3.toInt = x3) {xv4 : Int32} {x4 : Int} (xt4 : xv4.toInt = x4) {xv5 : Int32} {x5 : Int} (xt5 : xv5.toInt = x5) {xv6 : Int32} {x6 : Int} (xt6 : xv6.toInt = x6) {xv7 : Int32} {x7 : Int} (xt7 : xv7.toInt = x7) {xv8 : Int32} {x8 : Int} (xt8 : xv8.toInt = x8) (hl : lv_has ls 10 [(0, .ref (G.2.2 1042)), (1, .int xv1), (2, .int xv2), (3, .int xv3), (4, .int xv4), (5, .int xv5), (6, .int xv6), (7, .int xv7), (8, .int xv8)])  (h : wX8_readMember_271 S x1 x2 x3 x4 x5 x6 x7 x8 k) : W p l e (rmF 4 91) s m args below meth c H locs 0 0 (MQ below (QcV G (injR SB) k) args s 0 0 (AG G)) (F0 m 271 ls []) := by
  refine lv_aload_n C.1.1 C.1.2.1 dX8_readMember_271 rfl (lv_at hl 0 rfl) ?_
  refine y_bipush C dX8_readMember_272 ⟨by decide, by decide⟩ (fun v1 t1 => ?_)
  refine y_cVV C (As := [.int v1]) (rest := []) ml_X8_249 (kX8_take l G SB S t1 h) (ocr SB) (T := TX8) (N := 60) rfl (by decide) ⟨(Nat.le_of_ble_eq_true rfl), (Nat.le_of_ble_eq_true rfl)⟩ hl.1 rfl rfl (Nat.le_of_ble_eq_true rfl) hw hS dX8_readMember_274 (fun S_2 H locs h hw hS => ?_)
  refine lv_aload_n C.1.1 C.1.2.1 dX8_readMember_277 rfl (lv_at hl 0 rfl) ?_
  refine y_bipush C dX8_readMember_278 ⟨by decide, by decide⟩ (fun v3 t3 => ?_)
  refine y_cVV C (As := [.int v3]) (rest := []) ml_X8_249 (kX8_take l G SB S_2 t3 h) (ocr SB) (T := TX8) (N := 60) rfl (by decide) ⟨(Nat.le_of_ble_eq_true rfl), (Nat.le_of_ble_eq_true rfl)⟩ hl.1 rfl rfl (Nat.le_of_ble_eq_true rfl) hw hS dX8_readMember_280 (fun S_4 H locs h hw hS => ?_)
  refine lv_aload_n C.1.1 C.1.2.1 dX8_readMember_283 rfl (lv_at hl 0 rfl) ?_
  refine y_cVIp C (As := []) (rest := []) ml_X8_261 (kX8_goesOn l G SB S_4  h) (ocr SB) (T := TX8) (N := 60) rfl (by decide) ⟨(Nat.le_of_ble_eq_true rfl), (Nat.le_of_ble_eq_true rfl)⟩ hl.1 rfl rfl (Nat.le_of_ble_eq_true rfl) hw hS dX8_readMember_284 (fun v5 x_5 H locs t5 h hw hS => ?_)
  refine y_if_eq C t5 dX8_readMember_287 (tgt := 395) (by decide) (fun c6 => ?_) (fun c6 => ?_)
  · have h := h.1 c6
    exact y_vret C hw hS h dX8_readMember_395
  · have h := h.2 c6
    refine lv_aload_n C.1.1 C.1.2.1 dX8_readMember_290 rfl (lv_at hl 0 rfl) ?_
    refine y_getA C fl_X8_122 hw (ocr SB) rfl (o := 28) rfl dX8_readMember_291 ?_
    refine lv_iload C.1.1 C.1.2.1 dX8_readMember_294 (lv_at hl 7 rfl) ?_
    refine lv_iload_n C.1.1 C.1.2.1 dX8_readMember_296 rfl (lv_at hl 1 rfl) ?_
    obtain ⟨b8, h⟩ := h
    obtain ⟨S_8, e8⟩ : ∃ z : St, z = up S_4 28 x7 x1 := ⟨_, rfl⟩
    have h := h S_8 e8
    refine y_iast C hw hS (acr_37 SB) xt7 xt1 b8 dX8_readMember_297 (fun H locs hw hS => ?_)
    have hw : Wd G ((injR SB) S_8) H := by rw [e8]; exact hw
    refine lv_aload_n C.1.1 C.1.2.1 dX8_readMember_298 rfl (lv_at hl 0 rfl) ?_
    refine y_getA C fl_X8_128 hw (ocr SB) rfl (o := 30) rfl dX8_readMember_299 ?_
    refine lv_iload C.1.1 C.1.2.1 dX8_readMember_302 (lv_at hl 7 rfl) ?_
    refine lv_iload C.1.1 C.1.2.1 dX8_readMember_304 (lv_at hl 4 rfl) ?_
    refine y_if_lt C xt4 dX8_readMember_306 (tgt := 314) (by decide) (fun c10 => ?_) (fun c10 => ?_)
    · have h := h.1 c10
      refine lv_iload_n C.1.1 C.1.2.1 dX8_readMember_314 rfl (lv_at hl 3 rfl) ?_
      refine y_if_eq C xt3 dX8_readMember_315 (tgt := 322) (by decide) (fun c11 => ?_) (fun c11 => ?_)
      · have h := h.1 c11
        refine y_iconst C dX8_readMember_322 ⟨by decide, by decide⟩ (fun v12 t12 => ?_)
        exact uX8_readMember_323 C hw hS xt2 xt3 xt5 xt6 xt7 xt8 xt7 t12 (lv_sub hl [0, 2, 3, 5, 6, 7, 8] rfl)  h
      · have h := h.2 c11
        refine y_iconst C dX8_readMember_318 ⟨by decide, by decide⟩ (fun v13 t13 => ?_)
        refine lv_goto (tgt := 323) C.1.1 C.1.2.1 dX8_readMember_319 (by decide) ?_
        exact uX8_readMember_323 C hw hS xt2 xt3 xt5 xt6 xt7 xt8 xt7 t13 (lv_sub hl [0, 2, 3, 5, 6, 7, 8] rfl)  h
    · have h := h.2 c10
      refine lv_iload C.1.1 C.1.2.1 dX8_readMember_309 (lv_at hl 4 rfl) ?_
      refine lv_goto (tgt := 323) C.1.1 C.1.2.1 dX8_readMember_311 (by decide) ?_
      exact uX8_readMember_323 C hw hS xt2 xt3 xt5 xt6 xt7 xt8 xt7 xt4 (lv_sub hl [0, 2, 3, 5, 6, 7, 8] rfl)  h
set_option maxHeartbeats 4000000 in
set_option maxRecDepth 10000 in
theorem uX8_readMember_205_b {p : Program} {l : Launch} {e : Env} {s : State} {m : MethodId} {args : Array Value} {below : List Frame} {meth : Method} {c : Code} {G : GG} {SB : St} (C : Cx p s m args meth c G RX8 cX8_readMember 10 none) {S : St} {H : Heap} {locs : List Loc} {ls : Array Slot}  {P205 : Int → Int → St → Prop} {k : St → Prop} (hw : Wd G ((injR SB) S) H) (hS : va_S (AG G) s.heap H locs) {xv1 : Int32} {x1 : Int} (xt1 : xv1.toInt = x1) {xv2 : Int32} {x2 : Int} (xt2 : xv2.toInt = x2) {xv3 : Int32} {x3 : Int} (xt3 : xv3.toInt = x3) {xv4 : Int32} {x4 : Int} (xt4 : xv4.toInt = x4) {xv5 : Int32} {x5 : Int} (xt5 : xv5.toInt = x5) {xv6 : Int32} {x6 : Int} (xt6 : xv6.toInt = x6) {xv7 : Int32} {x7 : Int} (xt7 : xv7.toInt = x7) {xv8 : Int32} {x8 : Int} (xt8 : xv8.toInt = x8) {xv9 : Int32} {x9 : Int} (xt9 : xv9.toInt = x9) (hl : lv_has ls 10 [(0, .ref (G.2.2 1042)), (1, .int xv1), (2, .int xv2), (3, .int xv3), (4, .int xv4), (5, .int xv5), (6, .int xv6), (7, .int xv7), (8, .int xv8), (9, .int xv9)])  (hP205 : ∀ {H : Heap} {locs : List Loc} {ls : Array Slot} {Sy : St} {yv8 : Int32} {y8 : Int} {yv9 : Int32} {y9 : Int}, yv8.toInt = y8 → yv9.toInt = y9 → Wd G ((injR SB) Sy) H → va_S (AG G) s.heap H locs → lv_has ls 10 [(0, .ref (G.2.2 1042)), (1, .int xv1), (2, .int xv2), (3, .int xv3), (4, .int xv4), (5, .int xv5), (6, .int xv6), (7, .int xv7), (8, .int yv8), (9, .int yv9)] → P205 y8 y9 Sy → W p l e (rmF 4 91) s m args below meth c H locs 0 0 (MQ below (QcV G (injR SB) k) args s 0 0 (AG G)) (F0 m 205 ls [])) (h : wX8_readMember_205_b S x1 x2 x3 x4 x5 x6 x7 x8 x9 P205 k) : W p l e (rmF 4 91) s m args below meth c H locs 0 0 (MQ below (QcV G (injR SB) k) args s 0 0 (AG G)) (F0 m 205 ls []) := by
  refine lv_iload C.1.1 C.1.2.1 dX8_readMember_205 (lv_at hl 9 rfl) ?_
  refine y_if_eq C xt9 dX8_readMember_207 (tgt := 271) (by decide) (fun c1 => ?_) (fun c1 => ?_)
  · have h := h.1 c1
    exact uX8_readMember_271 C hw hS xt1 xt2 xt3 xt4 xt5 xt6 xt7 xt8 (lv_sub hl [0, 1, 2, 3, 4, 5, 6, 7, 8] rfl)  h
  · have h := h.2 c1
    refine lv_aload_n C.1.1 C.1.2.1 dX8_readMember_210 rfl (lv_at hl 0 rfl) ?_
    refine y_cVIp C (As := []) (rest := []) ml_X8_261 (kX8_goesOn l G SB S  h) (ocr SB) (T := TX8) (N := 60) rfl (by decide) ⟨(Nat.le_of_ble_eq_true rfl), (Nat.le_of_ble_eq_true rfl)⟩ hl.1 rfl rfl (Nat.le_of_ble_eq_true rfl) hw hS dX8_readMember_211 (fun v2 x_2 H locs t2 h hw hS => ?_)
    refine y_if_eq C t2 dX8_readMember_214 (tgt := 271) (by decide) (fun c3 => ?_) (fun c3 => ?_)
    · have h := h.1 c3
      exact uX8_readMember_271 C hw hS xt1 xt2 xt3 xt4 xt5 xt6 xt7 xt8 (lv_sub hl [0, 1, 2, 3, 4, 5, 6, 7, 8] rfl)  h
    · have h := h.2 c3
      refine lv_aload_n C.1.1 C.1.2.1 dX8_readMember_217 rfl (lv_at hl 0 rfl) ?_
      refine y_getA C fl_X8_137 hw (ocr SB) rfl (o := 33) rfl dX8_readMember_218 ?_
      refine y_iconst C dX8_readMember_221 ⟨by decide, by decide⟩ (fun v5 t5 => ?_)
      refine lv_iload C.1.1 C.1.2.1 dX8_readMember_222 (lv_at hl 7 rfl) ?_
      refine y_imul C t5 xt7 dX8_readMember_224 (fun v6 t6 => ?_)
      refine lv_iload C.1.1 C.1.2.1 dX8_readMember_225 (lv_at hl 8 rfl) ?_
      refine y_iadd C t6 xt8 dX8_readMember_227 (fun v7 t7 => ?_)
      refine lv_aload_n C.1.1 C.1.2.1 dX8_readMember_228 rfl (lv_at hl 0 rfl) ?_
      refine lv_iload_n C.1.1 C.1.2.1 dX8_readMember_229 rfl (lv_at hl 1 rfl) ?_
      refine y_cVI C (As := [.int xv1]) (rest := [.int v7, .ref (G.2.2 (1075))]) ml_X8_289 (kX8_readKind l G SB S xt1 h) (ocr SB) (T := TX8) (N := 60) rfl (by decide) ⟨(Nat.le_of_ble_eq_true rfl), (Nat.le_of_ble_eq_true rfl)⟩ hl.1 rfl rfl (Nat.le_of_ble_eq_true rfl) hw hS dX8_readMember_230 (fun v8 x_8 S_8 H locs t8 h hw hS => ?_)
      obtain ⟨b9, h⟩ := h
      obtain ⟨S_9, e9⟩ : ∃ z : St, z = up S_8 33 (w32 (w32 (3 * x7) + x8)) x_8 := ⟨_, rfl⟩
      have h := h S_9 e9
      refine y_iast C hw hS (acr_42 SB) t7 t8 b9 dX8_readMember_233 (fun H locs hw hS => ?_)
      have hw : Wd G ((injR SB) S_9) H := by rw [e9]; exact hw
      obtain ⟨x_10, e10⟩ : ∃ z : Int, z = w32 (x8 + 1) := ⟨_, rfl⟩
      have h := h x_10 e10
      obtain ⟨v10, t10, g10⟩ : ∃ z : Int32, z.toInt = x_10 ∧ xv8 + Int32.ofInt 1 = z := ⟨_, (ti_inc xt8 ⟨by decide, by decide⟩).trans e10.symm, rfl⟩
      refine lv_iinc (v := v10) (lv' := [(8, .int v10), (0, .ref (G.2.2 1042)), (1, .int xv1), (2, .int xv2), (3, .int xv3), (4, .int xv4), (5, .int xv5), (6, .int xv6), (7, .int xv7), (9, .int xv9)]) C.1.1 C.1.2.1 dX8_readMember_234 hl (k := 8) rfl g10 (by decide) rfl (fun ls hl => ?_)
      refine lv_aload_n C.1.1 C.1.2.1 dX8_readMember_237 rfl (lv_at hl 1 rfl) ?_
      refine y_bipush C dX8_readMember_238 ⟨by decide, by decide⟩ (fun v11 t11 => ?_)
      refine y_cVIp C (As := [.int v11]) (rest := []) ml_X8_199 (kX8_is l G SB S_9 t11 h) (ocr SB) (T := TX8) (N := 60) rfl (by decide) ⟨(Nat.le_of_ble_eq_true rfl), (Nat.le_of_ble_eq_true rfl)⟩ hl.1 rfl rfl (Nat.le_of_ble_eq_true rfl) hw hS dX8_readMember_240 (fun v12 x_12 H locs t12 h hw hS => ?_)
      refine y_if_eq C t12 dX8_readMember_243 (tgt := 256) (by decide) (fun c13 => ?_) (fun c13 => ?_)
      · have h := h.1 c13
        exact uX8_readMember_256 C hw hS xt1 xt2 xt3 xt4 xt5 xt6 xt7 t10 (lv_sub hl [1, 2, 3, 4, 5, 6, 7, 8, 0] rfl) hP205 h
      · have h := h.2 c13
        refine lv_iload C.1.1 C.1.2.1 dX8_readMember_246 (lv_at hl 0 rfl) ?_
        refine y_iconst C dX8_readMember_248 ⟨by decide, by decide⟩ (fun v14 t14 => ?_)
        refine y_icmp_ge C t10 t14 dX8_readMember_249 (tgt := 256) (by decide) (fun c15 => ?_) (fun c15 => ?_)
        · have h := h.1 c15
          exact uX8_readMember_256 C hw hS xt1 xt2 xt3 xt4 xt5 xt6 xt7 t10 (lv_sub hl [1, 2, 3, 4, 5, 6, 7, 8, 0] rfl) hP205 h
        · have h := h.2 c15
          refine y_iconst C dX8_readMember_252 ⟨by decide, by decide⟩ (fun v16 t16 => ?_)
          refine lv_goto (tgt := 257) C.1.1 C.1.2.1 dX8_readMember_253 (by decide) ?_
          exact uX8_readMember_257 C hw hS xt1 xt2 xt3 xt4 xt5 xt6 xt7 t10 t16 (lv_sub hl [1, 2, 3, 4, 5, 6, 7, 8, 0] rfl) hP205 h
set_option maxHeartbeats 4000000 in
set_option maxRecDepth 10000 in
theorem uX8_readMember_205 {p : Program} {l : Launch} {e : Env} {s : State} {m : MethodId} {args : Array Value} {below : List Frame} {meth : Method} {c : Code} {G : GG} {SB : St} (C : Cx p s m args meth c G RX8 cX8_readMember 10 none) {S : St} {H : Heap} {locs : List Loc} {ls : Array Slot}  {k : St → Prop} (hw : Wd G ((injR SB) S) H) (hS : va_S (AG G) s.heap H locs) {xv1 : Int32} {x1 : Int} (xt1 : xv1.toInt = x1) {xv2 : Int32} {x2 : Int} (xt2 : xv2.toInt = x2) {xv3 : Int32} {x3 : Int} (xt3 : xv3.toInt = x3) {xv4 : Int32} {x4 : Int} (xt4 : xv4.toInt = x4) {xv5 : Int32} {x5 : Int} (xt5 : xv5.toInt = x5) {xv6 : Int32} {x6 : Int} (xt6 : xv6.toInt = x6) {xv7 : Int32} {x7 : Int} (xt7 : xv7.toInt = x7) {xv8 : Int32} {x8 : Int} (xt8 : xv8.toInt = x8) {xv9 : Int32} {x9 : Int} (xt9 : xv9.toInt = x9) (hl : lv_has ls 10 [(0, .ref (G.2.2 1042)), (1, .int xv1), (2, .int xv2), (3, .int xv3), (4, .int xv4), (5, .int xv5), (6, .int xv6), (7, .int xv7), (8, .int xv8), (9, .int xv9)])  (h : wX8_readMember_205 S x1 x2 x3 x4 x5 x6 x7 x8 x9 k) : W p l e (rmF 4 91) s m args below meth c H locs 0 0 (MQ below (QcV G (injR SB) k) args s 0 0 (AG G)) (F0 m 205 ls []) := by
  have key : ∀ (n : Nat) {H : Heap} {locs : List Loc} {ls : Array Slot} {S : St} {xv8 : Int32} {x8 : Int} {xv9 : Int32} {x9 : Int}, xv8.toInt = x8 → xv9.toInt = x9 → Wd G ((injR SB) S) H → va_S (AG G) s.heap H locs → lv_has ls 10 [(0, .ref (G.2.2 1042)), (1, .int xv1), (2, .int xv2), (3, .int xv3), (4, .int xv4), (5, .int xv5), (6, .int xv6), (7, .int xv7), (8, .int xv8), (9, .int xv9)] → itP (fun (P : Int × Int × St → Prop) (a : Int × Int × St) => wX8_readMember_205_b a.2.2 x1 x2 x3 x4 x5 x6 x7 a.1 a.2.1 (fun b0 b1 b2 => P (b0, b1, b2)) k) n (x8, x9, S) → W p l e (rmF 4 91) s m args below meth c H locs 0 0 (MQ below (QcV G (injR SB) k) args s 0 0 (AG G)) (F0 m 205 ls []) := by
    intro n
    induction n with
    | zero => intro H locs ls S xv8 x8 xv9 x9 xt8 xt9 hw hS hl h; exact h.elim
    | succ n ih =>
      intro H locs ls S xv8 x8 xv9 x9 xt8 xt9 hw hS hl h
      exact uX8_readMember_205_b C hw hS xt1 xt2 xt3 xt4 xt5 xt6 xt7 xt8 xt9 hl  (P205 := fun b0 b1 b2 => itP _ n (b0, b1, b2)) (fun q0 q1 hw hS hl h => ih q0 q1 hw hS hl h) h
  obtain ⟨n, hn⟩ := h
  exact key n xt8 xt9 hw hS hl hn
set_option maxHeartbeats 4000000 in
set_option maxRecDepth 10000 in
theorem uX8_readMember_117 {p : Program} {l : Launch} {e : Env} {s : State} {m : MethodId} {args : Array Value} {below : List Frame} {meth : Method} {c : Code} {G : GG} {SB : St} (C : Cx p s m args meth c G RX8 cX8_readMember 10 none) {S : St} {H : Heap} {locs : List Loc} {ls : Array Slot}  {k : St → Prop} (hw : Wd G ((injR SB) S) H) (hS : va_S (AG G) s.heap H locs) {xv1 : Int32} {x1 : Int} (xt1 : xv1.toInt = x1) {xv2 : Int32} {x2 : Int} (xt2 : xv2.toInt = x2) {xv3 : Int32} {x3 : Int} (xt3 : xv3.toInt = x3) {xv4 : Int32} {x4 : Int} (xt4 : xv4.toInt = x4) {xv5 : Int32} {x5 : Int} (xt5 : xv5.toInt = x5) {sv1 : Int32} {s1 : Int} (st1 : sv1.toInt = s1) {sv2 : Int32} {s2 : Int} (st2 : sv2.toInt = s2) (hl : lv_has ls 10 [(0, .ref (G.2.2 1042)), (1, .int xv1), (2, .int xv2), (3, .int xv3), (4, .int xv4), (5, .int xv5)])  (h : wX8_readMember_117 S x1 x2 x3 x4 x5 s1 s2 k) : W p l e (rmF 4 91) s m args below meth c H locs 0 0 (MQ below (QcV G (injR SB) k) args s 0 0 (AG G)) (F0 m 117 ls [.int sv2, .int sv1, .ref (G.2.2 1042)]) := by
  refine y_cVI C (As := [.int sv1, .int sv2]) (rest := []) ml_X8_285 (kX8_readResult l G SB S st1 st2 h) (ocr SB) (T := TX8) (N := 60) rfl (by decide) ⟨(Nat.le_of_ble_eq_true rfl), (Nat.le_of_ble_eq_true rfl)⟩ hl.1 rfl rfl (Nat.le_of_ble_eq_true rfl) hw hS dX8_readMember_117 (fun v1 x_1 S_1 H locs t1 h hw hS => ?_)
  refine lv_istore (lv' := [(6, .int v1), (0, .ref (G.2.2 1042)), (1, .int xv1), (2, .int xv2), (3, .int xv3), (4, .int xv4), (5, .int xv5)]) C.1.1 C.1.2.1 dX8_readMember_120 hl (by decide) rfl (fun ls hl => ?_)
  refine lv_aload_n C.1.1 C.1.2.1 dX8_readMember_122 rfl (lv_at hl 1 rfl) ?_
  refine y_cVIp C (As := []) (rest := []) ml_X8_261 (kX8_goesOn l G SB S_1  h) (ocr SB) (T := TX8) (N := 60) rfl (by decide) ⟨(Nat.le_of_ble_eq_true rfl), (Nat.le_of_ble_eq_true rfl)⟩ hl.1 rfl rfl (Nat.le_of_ble_eq_true rfl) hw hS dX8_readMember_123 (fun v2 x_2 H locs t2 h hw hS => ?_)
  refine y_if_ne C t2 dX8_readMember_126 (tgt := 130) (by decide) (fun c3 => ?_) (fun c3 => ?_)
  · have h := h.1 c3
    refine lv_aload_n C.1.1 C.1.2.1 dX8_readMember_130 rfl (lv_at hl 1 rfl) ?_
    refine lv_aload_n C.1.1 C.1.2.1 dX8_readMember_131 rfl (lv_at hl 1 rfl) ?_
    refine y_getA C fl_X8_49 hw (ocr SB) rfl (o := 4) rfl dX8_readMember_132 ?_
    refine lv_aload_n C.1.1 C.1.2.1 dX8_readMember_135 rfl (lv_at hl 1 rfl) ?_
    refine y_getI C fl_X8_208 hw (ocr SB) rfl dX8_readMember_136 (fun v5 t5 => ?_)
    obtain ⟨b6, h⟩ := h
    refine y_iald C hw (acr_13 SB) t5 b6 dX8_readMember_139 (fun v6 t6 => ?_)
    refine y_cVIp C (As := [.int v6]) (rest := []) ml_X8_218 (kX8_m l G SB S_1 t6 h) (ocr SB) (T := TX8) (N := 60) rfl (by decide) ⟨(Nat.le_of_ble_eq_true rfl), (Nat.le_of_ble_eq_true rfl)⟩ hl.1 rfl rfl (Nat.le_of_ble_eq_true rfl) hw hS dX8_readMember_140 (fun v7 x_7 H locs t7 h hw hS => ?_)
    refine lv_istore (lv' := [(7, .int v7), (6, .int v1), (0, .ref (G.2.2 1042)), (1, .int xv1), (2, .int xv2), (3, .int xv3), (4, .int xv4), (5, .int xv5)]) C.1.1 C.1.2.1 dX8_readMember_143 hl (by decide) rfl (fun ls hl => ?_)
    refine lv_aload_n C.1.1 C.1.2.1 dX8_readMember_145 rfl (lv_at hl 2 rfl) ?_
    refine y_iconst C dX8_readMember_146 ⟨by decide, by decide⟩ (fun v8 t8 => ?_)
    refine y_cVIp C (As := [.int v8]) (rest := []) ml_X8_199 (kX8_is l G SB S_1 t8 h) (ocr SB) (T := TX8) (N := 60) rfl (by decide) ⟨(Nat.le_of_ble_eq_true rfl), (Nat.le_of_ble_eq_true rfl)⟩ hl.1 rfl rfl (Nat.le_of_ble_eq_true rfl) hw hS dX8_readMember_147 (fun v9 x_9 H locs t9 h hw hS => ?_)
    refine y_if_ne C t9 dX8_readMember_150 (tgt := 158) (by decide) (fun c10 => ?_) (fun c10 => ?_)
    · have h := h.1 c10
      refine lv_aload_n C.1.1 C.1.2.1 dX8_readMember_158 rfl (lv_at hl 2 rfl) ?_
      refine y_getA C fl_X8_125 hw (ocr SB) rfl (o := 29) rfl dX8_readMember_159 ?_
      refine lv_iload C.1.1 C.1.2.1 dX8_readMember_162 (lv_at hl 0 rfl) ?_
      refine lv_aload_n C.1.1 C.1.2.1 dX8_readMember_164 rfl (lv_at hl 2 rfl) ?_
      refine y_getJ C fl_X8_182 hw (ocr SB) rfl dX8_readMember_165 (fun v12 t12 => ?_)
      obtain ⟨b13, h⟩ := h
      obtain ⟨S_13, e13⟩ : ∃ z : St, z = up S_1 29 x_7 (S_1 0 7) := ⟨_, rfl⟩
      have h := h S_13 e13
      refine y_last C hw hS (acr_38 SB) t7 t12 b13 dX8_readMember_168 (fun H locs hw hS => ?_)
      have hw : Wd G ((injR SB) S_13) H := by rw [e13]; exact hw
      refine lv_aload_n C.1.1 C.1.2.1 dX8_readMember_169 rfl (lv_at hl 2 rfl) ?_
      refine y_cVV C (As := []) (rest := []) ml_X8_202 (kX8_next l G SB S_13  h) (ocr SB) (T := TX8) (N := 60) rfl (by decide) ⟨(Nat.le_of_ble_eq_true rfl), (Nat.le_of_ble_eq_true rfl)⟩ hl.1 rfl rfl (Nat.le_of_ble_eq_true rfl) hw hS dX8_readMember_170 (fun S_14 H locs h hw hS => ?_)
      refine lv_aload_n C.1.1 C.1.2.1 dX8_readMember_173 rfl (lv_at hl 2 rfl) ?_
      refine y_bipush C dX8_readMember_174 ⟨by decide, by decide⟩ (fun v15 t15 => ?_)
      refine y_cVV C (As := [.int v15]) (rest := []) ml_X8_249 (kX8_take l G SB S_14 t15 h) (ocr SB) (T := TX8) (N := 60) rfl (by decide) ⟨(Nat.le_of_ble_eq_true rfl), (Nat.le_of_ble_eq_true rfl)⟩ hl.1 rfl rfl (Nat.le_of_ble_eq_true rfl) hw hS dX8_readMember_176 (fun S_16 H locs h hw hS => ?_)
      refine y_iconst C dX8_readMember_179 ⟨by decide, by decide⟩ (fun v17 t17 => ?_)
      refine lv_istore (lv' := [(8, .int v17), (7, .int v7), (6, .int v1), (0, .ref (G.2.2 1042)), (1, .int xv1), (2, .int xv2), (3, .int xv3), (4, .int xv4), (5, .int xv5)]) C.1.1 C.1.2.1 dX8_readMember_180 hl (by decide) rfl (fun ls hl => ?_)
      refine lv_aload_n C.1.1 C.1.2.1 dX8_readMember_182 rfl (lv_at hl 3 rfl) ?_
      refine y_cVIp C (As := []) (rest := []) ml_X8_261 (kX8_goesOn l G SB S_16  h) (ocr SB) (T := TX8) (N := 60) rfl (by decide) ⟨(Nat.le_of_ble_eq_true rfl), (Nat.le_of_ble_eq_true rfl)⟩ hl.1 rfl rfl (Nat.le_of_ble_eq_true rfl) hw hS dX8_readMember_183 (fun v18 x_18 H locs t18 h hw hS => ?_)
      refine y_if_eq C t18 dX8_readMember_186 (tgt := 202) (by decide) (fun c19 => ?_) (fun c19 => ?_)
      · have h := h.1 c19
        refine y_iconst C dX8_readMember_202 ⟨by decide, by decide⟩ (fun v20 t20 => ?_)
        refine lv_istore (lv' := [(9, .int v20), (8, .int v17), (7, .int v7), (6, .int v1), (0, .ref (G.2.2 1042)), (1, .int xv1), (2, .int xv2), (3, .int xv3), (4, .int xv4), (5, .int xv5)]) C.1.1 C.1.2.1 dX8_readMember_203 hl (by decide) rfl (fun ls hl => ?_)
        exact uX8_readMember_205 C hw hS xt1 xt2 xt3 xt4 xt5 t1 t7 t17 t20 (lv_sub hl [4, 5, 6, 7, 8, 9, 3, 2, 1, 0] rfl)  h
      · have h := h.2 c19
        refine lv_aload_n C.1.1 C.1.2.1 dX8_readMember_189 rfl (lv_at hl 3 rfl) ?_
        refine y_getI C fl_X8_175 hw (ocr SB) rfl dX8_readMember_190 (fun v21 t21 => ?_)
        refine y_bipush C dX8_readMember_193 ⟨by decide, by decide⟩ (fun v22 t22 => ?_)
        refine y_icmp_eq C t21 t22 dX8_readMember_195 (tgt := 202) (by decide) (fun c23 => ?_) (fun c23 => ?_)
        · have h := h.1 c23
          refine y_iconst C dX8_readMember_202 ⟨by decide, by decide⟩ (fun v24 t24 => ?_)
          refine lv_istore (lv' := [(9, .int v24), (8, .int v17), (7, .int v7), (6, .int v1), (0, .ref (G.2.2 1042)), (1, .int xv1), (2, .int xv2), (3, .int xv3), (4, .int xv4), (5, .int xv5)]) C.1.1 C.1.2.1 dX8_readMember_203 hl (by decide) rfl (fun ls hl => ?_)
          exact uX8_readMember_205 C hw hS xt1 xt2 xt3 xt4 xt5 t1 t7 t17 t24 (lv_sub hl [4, 5, 6, 7, 8, 9, 3, 2, 1, 0] rfl)  h
        · have h := h.2 c23
          refine y_iconst C dX8_readMember_198 ⟨by decide, by decide⟩ (fun v25 t25 => ?_)
          refine lv_goto (tgt := 203) C.1.1 C.1.2.1 dX8_readMember_199 (by decide) ?_
          refine lv_istore (lv' := [(9, .int v25), (8, .int v17), (7, .int v7), (6, .int v1), (0, .ref (G.2.2 1042)), (1, .int xv1), (2, .int xv2), (3, .int xv3), (4, .int xv4), (5, .int xv5)]) C.1.1 C.1.2.1 dX8_readMember_203 hl (by decide) rfl (fun ls hl => ?_)
          exact uX8_readMember_205 C hw hS xt1 xt2 xt3 xt4 xt5 t1 t7 t17 t25 (lv_sub hl [4, 5, 6, 7, 8, 9, 3, 2, 1, 0] rfl)  h
    · have h := h.2 c10
      refine lv_aload_n C.1.1 C.1.2.1 dX8_readMember_153 rfl (lv_at hl 2 rfl) ?_
      refine y_cVV C (As := []) (rest := []) ml_X8_205 (kX8_odd l G SB S_1  h) (ocr SB) (T := TX8) (N := 60) rfl (by decide) ⟨(Nat.le_of_ble_eq_true rfl), (Nat.le_of_ble_eq_true rfl)⟩ hl.1 rfl rfl (Nat.le_of_ble_eq_true rfl) hw hS dX8_readMember_154 (fun S_26 H locs h hw hS => ?_)
      exact y_vret C hw hS h dX8_readMember_157
  · have h := h.2 c3
    exact y_vret C hw hS h dX8_readMember_129
set_option maxHeartbeats 4000000 in
set_option maxRecDepth 10000 in
theorem uX8_readMember_116 {p : Program} {l : Launch} {e : Env} {s : State} {m : MethodId} {args : Array Value} {below : List Frame} {meth : Method} {c : Code} {G : GG} {SB : St} (C : Cx p s m args meth c G RX8 cX8_readMember 10 none) {S : St} {H : Heap} {locs : List Loc} {ls : Array Slot}  {k : St → Prop} (hw : Wd G ((injR SB) S) H) (hS : va_S (AG G) s.heap H locs) {xv1 : Int32} {x1 : Int} (xt1 : xv1.toInt = x1) {xv2 : Int32} {x2 : Int} (xt2 : xv2.toInt = x2) {xv3 : Int32} {x3 : Int} (xt3 : xv3.toInt = x3) {xv4 : Int32} {x4 : Int} (xt4 : xv4.toInt = x4) {xv5 : Int32} {x5 : Int} (xt5 : xv5.toInt = x5) {sv1 : Int32} {s1 : Int} (st1 : sv1.toInt = s1) (hl : lv_has ls 10 [(0, .ref (G.2.2 1042)), (1, .int xv1), (2, .int xv2), (3, .int xv3), (4, .int xv4), (5, .int xv5)])  (h : wX8_readMember_116 S x1 x2 x3 x4 x5 s1 k) : W p l e (rmF 4 91) s m args below meth c H locs 0 0 (MQ below (QcV G (injR SB) k) args s 0 0 (AG G)) (F0 m 116 ls [.int sv1, .ref (G.2.2 1042)]) := by
  refine y_iconst C dX8_readMember_116 ⟨by decide, by decide⟩ (fun v1 t1 => ?_)
  exact uX8_readMember_117 C hw hS xt1 xt2 xt3 xt4 xt5 st1 t1 (lv_sub hl [0, 1, 2, 3, 4, 5] rfl)  h
set_option maxHeartbeats 4000000 in
set_option maxRecDepth 10000 in
theorem uX8_readMember_86 {p : Program} {l : Launch} {e : Env} {s : State} {m : MethodId} {args : Array Value} {below : List Frame} {meth : Method} {c : Code} {G : GG} {SB : St} (C : Cx p s m args meth c G RX8 cX8_readMember 10 none) {S : St} {H : Heap} {locs : List Loc} {ls : Array Slot}  {k : St → Prop} (hw : Wd G ((injR SB) S) H) (hS : va_S (AG G) s.heap H locs) {xv1 : Int32} {x1 : Int} (xt1 : xv1.toInt = x1) {xv2 : Int32} {x2 : Int} (xt2 : xv2.toInt = x2) {xv3 : Int32} {x3 : Int} (xt3 : xv3.toInt = x3) {xv4 : Int32} {x4 : Int} (xt4 : xv4.toInt = x4) {sv0 : Int32} {s0 : Int} (st0 : sv0.toInt = s0) (hl : lv_has ls 10 [(0, .ref (G.2.2 1042)), (1, .int xv1), (2, .int xv2), (3, .int xv3), (4, .int xv4)])  (h : wX8_readMember_86 S x1 x2 x3 x4 s0 k) : W p l e (rmF 4 91) s m args below meth c H locs 0 0 (MQ below (QcV G (injR SB) k) args s 0 0 (AG G)) (F0 m 86 ls [.int sv0]) := by
  refine lv_istore (lv' := [(5, .int sv0), (0, .ref (G.2.2 1042)), (1, .int xv1), (2, .int xv2), (3, .int xv3), (4, .int xv4)]) C.1.1 C.1.2.1 dX8_readMember_86 hl (by decide) rfl (fun ls hl => ?_)
  refine lv_aload_n C.1.1 C.1.2.1 dX8_readMember_88 rfl (lv_at hl 1 rfl) ?_
  refine y_cVIp C (As := []) (rest := []) ml_X8_261 (kX8_goesOn l G SB S  h) (ocr SB) (T := TX8) (N := 60) rfl (by decide) ⟨(Nat.le_of_ble_eq_true rfl), (Nat.le_of_ble_eq_true rfl)⟩ hl.1 rfl rfl (Nat.le_of_ble_eq_true rfl) hw hS dX8_readMember_89 (fun v1 x_1 H locs t1 h hw hS => ?_)
  refine y_if_ne C t1 dX8_readMember_92 (tgt := 96) (by decide) (fun c2 => ?_) (fun c2 => ?_)
  · have h := h.1 c2
    refine lv_aload_n C.1.1 C.1.2.1 dX8_readMember_96 rfl (lv_at hl 1 rfl) ?_
    refine lv_iload_n C.1.1 C.1.2.1 dX8_readMember_97 rfl (lv_at hl 2 rfl) ?_
    refine lv_iload_n C.1.1 C.1.2.1 dX8_readMember_98 rfl (lv_at hl 4 rfl) ?_
    refine y_if_eq C xt3 dX8_readMember_99 (tgt := 116) (by decide) (fun c3 => ?_) (fun c3 => ?_)
    · have h := h.1 c3
      exact uX8_readMember_116 C hw hS xt1 xt2 xt3 xt4 st0 xt1 (lv_sub hl [1, 2, 3, 4, 5, 0] rfl)  h
    · have h := h.2 c3
      refine lv_iload C.1.1 C.1.2.1 dX8_readMember_102 (lv_at hl 5 rfl) ?_
      refine y_if_ne C xt4 dX8_readMember_104 (tgt := 116) (by decide) (fun c4 => ?_) (fun c4 => ?_)
      · have h := h.1 c4
        exact uX8_readMember_116 C hw hS xt1 xt2 xt3 xt4 st0 xt1 (lv_sub hl [1, 2, 3, 4, 5, 0] rfl)  h
      · have h := h.2 c4
        refine lv_iload C.1.1 C.1.2.1 dX8_readMember_107 (lv_at hl 0 rfl) ?_
        refine y_if_ge C st0 dX8_readMember_109 (tgt := 116) (by decide) (fun c5 => ?_) (fun c5 => ?_)
        · have h := h.1 c5
          exact uX8_readMember_116 C hw hS xt1 xt2 xt3 xt4 st0 xt1 (lv_sub hl [1, 2, 3, 4, 5, 0] rfl)  h
        · have h := h.2 c5
          refine y_iconst C dX8_readMember_112 ⟨by decide, by decide⟩ (fun v6 t6 => ?_)
          refine lv_goto (tgt := 117) C.1.1 C.1.2.1 dX8_readMember_113 (by decide) ?_
          exact uX8_readMember_117 C hw hS xt1 xt2 xt3 xt4 st0 xt1 t6 (lv_sub hl [1, 2, 3, 4, 5, 0] rfl)  h
  · have h := h.2 c2
    exact y_vret C hw hS h dX8_readMember_95
set_option maxHeartbeats 4000000 in
set_option maxRecDepth 10000 in
theorem uX8_readMember_53 {p : Program} {l : Launch} {e : Env} {s : State} {m : MethodId} {args : Array Value} {below : List Frame} {meth : Method} {c : Code} {G : GG} {SB : St} (C : Cx p s m args meth c G RX8 cX8_readMember 10 none) {S : St} {H : Heap} {locs : List Loc} {ls : Array Slot}  {k : St → Prop} (hw : Wd G ((injR SB) S) H) (hS : va_S (AG G) s.heap H locs) {xv1 : Int32} {x1 : Int} (xt1 : xv1.toInt = x1) {xv2 : Int32} {x2 : Int} (xt2 : xv2.toInt = x2) {xv3 : Int32} {x3 : Int} (xt3 : xv3.toInt = x3) {sv1 : Int32} {s1 : Int} (st1 : sv1.toInt = s1) (hl : lv_has ls 10 [(0, .ref (G.2.2 1042)), (1, .int xv1), (2, .int xv2), (3, .int xv3)])  (h : wX8_readMember_53 S x1 x2 x3 s1 k) : W p l e (rmF 4 91) s m args below meth c H locs 0 0 (MQ below (QcV G (injR SB) k) args s 0 0 (AG G)) (F0 m 53 ls [.int sv1, .ref (G.2.2 1042)]) := by
  obtain ⟨z1, h⟩ := h
  obtain ⟨S_1, e1⟩ : ∃ z : St, z = up S 0 48 s1 := ⟨_, rfl⟩
  have h := h S_1 e1
  refine y_putZ C fl_X8_271 fp_8_48 hw hS (ocr SB) rfl st1 z1 dX8_readMember_53 (fun H locs hw hS => ?_)
  have hw : Wd G ((injR SB) S_1) H := by rw [e1]; exact hw
  refine lv_aload_n C.1.1 C.1.2.1 dX8_readMember_56 rfl (lv_at hl 0 rfl) ?_
  refine lv_iload_n C.1.1 C.1.2.1 dX8_readMember_57 rfl (lv_at hl 3 rfl) ?_
  refine y_cVI C (As := [.int xv3]) (rest := []) ml_X8_278 (kX8_readAccess l G SB S_1 xt3 h) (ocr SB) (T := TX8) (N := 60) rfl (by decide) ⟨(Nat.le_of_ble_eq_true rfl), (Nat.le_of_ble_eq_true rfl)⟩ hl.1 rfl rfl (Nat.le_of_ble_eq_true rfl) hw hS dX8_readMember_58 (fun v2 x_2 S_2 H locs t2 h hw hS => ?_)
  refine lv_istore (lv' := [(4, .int v2), (0, .ref (G.2.2 1042)), (1, .int xv1), (2, .int xv2), (3, .int xv3)]) C.1.1 C.1.2.1 dX8_readMember_61 hl (by decide) rfl (fun ls hl => ?_)
  refine lv_aload_n C.1.1 C.1.2.1 dX8_readMember_63 rfl (lv_at hl 1 rfl) ?_
  refine y_cVIp C (As := []) (rest := []) ml_X8_261 (kX8_goesOn l G SB S_2  h) (ocr SB) (T := TX8) (N := 60) rfl (by decide) ⟨(Nat.le_of_ble_eq_true rfl), (Nat.le_of_ble_eq_true rfl)⟩ hl.1 rfl rfl (Nat.le_of_ble_eq_true rfl) hw hS dX8_readMember_64 (fun v3 x_3 H locs t3 h hw hS => ?_)
  refine y_if_eq C t3 dX8_readMember_67 (tgt := 85) (by decide) (fun c4 => ?_) (fun c4 => ?_)
  · have h := h.1 c4
    refine y_iconst C dX8_readMember_85 ⟨by decide, by decide⟩ (fun v5 t5 => ?_)
    exact uX8_readMember_86 C hw hS xt1 xt2 xt3 t2 t5 (lv_sub hl [1, 2, 3, 4, 0] rfl)  h
  · have h := h.2 c4
    refine lv_aload_n C.1.1 C.1.2.1 dX8_readMember_70 rfl (lv_at hl 1 rfl) ?_
    refine lv_aload_n C.1.1 C.1.2.1 dX8_readMember_71 rfl (lv_at hl 1 rfl) ?_
    refine y_getA C fl_X8_70 hw (ocr SB) rfl (o := 11) rfl dX8_readMember_72 ?_
    refine lv_iload_n C.1.1 C.1.2.1 dX8_readMember_75 rfl (lv_at hl 3 rfl) ?_
    obtain ⟨b7, h⟩ := h
    refine y_iald C hw (acr_20 SB) xt2 b7 dX8_readMember_76 (fun v7 t7 => ?_)
    refine lv_iload C.1.1 C.1.2.1 dX8_readMember_77 (lv_at hl 0 rfl) ?_
    refine y_cVI C (As := [.int v7, .int v2]) (rest := []) ml_X8_282 (kX8_readShape l G SB S_2 t7 t2 h) (ocr SB) (T := TX8) (N := 60) rfl (by decide) ⟨(Nat.le_of_ble_eq_true rfl), (Nat.le_of_ble_eq_true rfl)⟩ hl.1 rfl rfl (Nat.le_of_ble_eq_true rfl) hw hS dX8_readMember_79 (fun v8 x_8 S_8 H locs t8 h hw hS => ?_)
    refine lv_goto (tgt := 86) C.1.1 C.1.2.1 dX8_readMember_82 (by decide) ?_
    exact uX8_readMember_86 C hw hS xt1 xt2 xt3 t2 t8 (lv_sub hl [1, 2, 3, 4, 0] rfl)  h
set_option maxHeartbeats 4000000 in
set_option maxRecDepth 10000 in
theorem uX8_readMember_48 {p : Program} {l : Launch} {e : Env} {s : State} {m : MethodId} {args : Array Value} {below : List Frame} {meth : Method} {c : Code} {G : GG} {SB : St} (C : Cx p s m args meth c G RX8 cX8_readMember 10 none) {S : St} {H : Heap} {locs : List Loc} {ls : Array Slot}  {k : St → Prop} (hw : Wd G ((injR SB) S) H) (hS : va_S (AG G) s.heap H locs) {xv1 : Int32} {x1 : Int} (xt1 : xv1.toInt = x1) {xv2 : Int32} {x2 : Int} (xt2 : xv2.toInt = x2) {xv3 : Int32} {x3 : Int} (xt3 : xv3.toInt = x3) (hl : lv_has ls 10 [(0, .ref (G.2.2 1042)), (1, .int xv1), (2, .int xv2), (3, .int xv3)])  (h : wX8_readMember_48 S x1 x2 x3 k) : W p l e (rmF 4 91) s m args below meth c H locs 0 0 (MQ below (QcV G (injR SB) k) args s 0 0 (AG G)) (F0 m 48 ls [.ref (G.2.2 1042)]) := by
  refine y_iconst C dX8_readMember_48 ⟨by decide, by decide⟩ (fun v1 t1 => ?_)
  refine lv_goto (tgt := 53) C.1.1 C.1.2.1 dX8_readMember_49 (by decide) ?_
  exact uX8_readMember_53 C hw hS xt1 xt2 xt3 t1 (lv_sub hl [0, 1, 2, 3] rfl)  h
set_option maxHeartbeats 4000000 in
set_option maxRecDepth 10000 in
theorem uX8_readMember_21 {p : Program} {l : Launch} {e : Env} {s : State} {m : MethodId} {args : Array Value} {below : List Frame} {meth : Method} {c : Code} {G : GG} {SB : St} (C : Cx p s m args meth c G RX8 cX8_readMember 10 none) {S : St} {H : Heap} {locs : List Loc} {ls : Array Slot}  {k : St → Prop} (hw : Wd G ((injR SB) S) H) (hS : va_S (AG G) s.heap H locs) {xv1 : Int32} {x1 : Int} (xt1 : xv1.toInt = x1) {xv2 : Int32} {x2 : Int} (xt2 : xv2.toInt = x2) {sv0 : Int32} {s0 : Int} (st0 : sv0.toInt = s0) (hl : lv_has ls 10 [(0, .ref (G.2.2 1042)), (1, .int xv1), (2, .int xv2)])  (h : wX8_readMember_21 S x1 x2 s0 k) : W p l e (rmF 4 91) s m args below meth c H locs 0 0 (MQ below (QcV G (injR SB) k) args s 0 0 (AG G)) (F0 m 21 ls [.int sv0]) := by
  refine lv_istore_n (lv' := [(3, .int sv0), (0, .ref (G.2.2 1042)), (1, .int xv1), (2, .int xv2)]) C.1.1 C.1.2.1 dX8_readMember_21 rfl hl (by decide) rfl (fun ls hl => ?_)
  refine lv_aload_n C.1.1 C.1.2.1 dX8_readMember_22 rfl (lv_at hl 1 rfl) ?_
  refine lv_aload_n C.1.1 C.1.2.1 dX8_readMember_23 rfl (lv_at hl 1 rfl) ?_
  refine y_getA C fl_X8_113 hw (ocr SB) rfl (o := 25) rfl dX8_readMember_24 ?_
  refine lv_iload_n C.1.1 C.1.2.1 dX8_readMember_27 rfl (lv_at hl 3 rfl) ?_
  obtain ⟨b2, h⟩ := h
  refine y_iald C hw (acr_34 SB) xt2 b2 dX8_readMember_28 (fun v2 t2 => ?_)
  refine y_bipush C dX8_readMember_29 ⟨by decide, by decide⟩ (fun v3 t3 => ?_)
  refine y_icmp_eq C t2 t3 dX8_readMember_31 (tgt := 48) (by decide) (fun c4 => ?_) (fun c4 => ?_)
  · have h := h.1 c4
    exact uX8_readMember_48 C hw hS xt1 xt2 st0 (lv_sub hl [1, 2, 3, 0] rfl)  h
  · have h := h.2 c4
    refine lv_aload_n C.1.1 C.1.2.1 dX8_readMember_34 rfl (lv_at hl 1 rfl) ?_
    refine y_getA C fl_X8_49 hw (ocr SB) rfl (o := 4) rfl dX8_readMember_35 ?_
    refine lv_aload_n C.1.1 C.1.2.1 dX8_readMember_38 rfl (lv_at hl 1 rfl) ?_
    refine y_getI C fl_X8_208 hw (ocr SB) rfl dX8_readMember_39 (fun v6 t6 => ?_)
    obtain ⟨b7, h⟩ := h
    refine y_iald C hw (acr_13 SB) t6 b7 dX8_readMember_42 (fun v7 t7 => ?_)
    refine y_bipush C dX8_readMember_43 ⟨by decide, by decide⟩ (fun v8 t8 => ?_)
    refine y_icmp_ne C t7 t8 dX8_readMember_45 (tgt := 52) (by decide) (fun c9 => ?_) (fun c9 => ?_)
    · have h := h.1 c9
      refine y_iconst C dX8_readMember_52 ⟨by decide, by decide⟩ (fun v10 t10 => ?_)
      exact uX8_readMember_53 C hw hS xt1 xt2 st0 t10 (lv_sub hl [1, 2, 3, 0] rfl)  h
    · have h := h.2 c9
      exact uX8_readMember_48 C hw hS xt1 xt2 st0 (lv_sub hl [1, 2, 3, 0] rfl)  h
set_option maxHeartbeats 4000000 in
set_option maxRecDepth 10000 in
theorem uX8_readMember_0 {p : Program} {l : Launch} {e : Env} {s : State} {m : MethodId} {args : Array Value} {below : List Frame} {meth : Method} {c : Code} {G : GG} {SB : St} (C : Cx p s m args meth c G RX8 cX8_readMember 10 none) {S : St} {H : Heap} {locs : List Loc} {ls : Array Slot}  {k : St → Prop} (hw : Wd G ((injR SB) S) H) (hS : va_S (AG G) s.heap H locs) {xv1 : Int32} {x1 : Int} (xt1 : xv1.toInt = x1) (hl : lv_has ls 10 [(0, .ref (G.2.2 1042)), (1, .int xv1)])  (h : wX8_readMember_0 S x1 k) : W p l e (rmF 4 91) s m args below meth c H locs 0 0 (MQ below (QcV G (injR SB) k) args s 0 0 (AG G)) (F0 m 0 ls []) := by
  refine lv_aload_n C.1.1 C.1.2.1 dX8_readMember_0 rfl (lv_at hl 0 rfl) ?_
  refine lv_iload_n C.1.1 C.1.2.1 dX8_readMember_1 rfl (lv_at hl 1 rfl) ?_
  refine y_cVIp C (As := [.int xv1]) (rest := []) ml_X8_214 (kX8_t l G SB S xt1 h) (ocr SB) (T := TX8) (N := 60) rfl (by decide) ⟨(Nat.le_of_ble_eq_true rfl), (Nat.le_of_ble_eq_true rfl)⟩ hl.1 rfl rfl (Nat.le_of_ble_eq_true rfl) hw hS dX8_readMember_2 (fun v1 x_1 H locs t1 h hw hS => ?_)
  refine lv_istore_n (lv' := [(2, .int v1), (0, .ref (G.2.2 1042)), (1, .int xv1)]) C.1.1 C.1.2.1 dX8_readMember_5 rfl hl (by decide) rfl (fun ls hl => ?_)
  refine lv_aload_n C.1.1 C.1.2.1 dX8_readMember_6 rfl (lv_at hl 1 rfl) ?_
  refine y_getA C fl_X8_70 hw (ocr SB) rfl (o := 11) rfl dX8_readMember_7 ?_
  refine lv_iload_n C.1.1 C.1.2.1 dX8_readMember_10 rfl (lv_at hl 0 rfl) ?_
  obtain ⟨b3, h⟩ := h
  refine y_iald C hw (acr_20 SB) t1 b3 dX8_readMember_11 (fun v3 t3 => ?_)
  refine y_iconst C dX8_readMember_12 ⟨by decide, by decide⟩ (fun v4 t4 => ?_)
  refine y_icmp_ne C t3 t4 dX8_readMember_13 (tgt := 20) (by decide) (fun c5 => ?_) (fun c5 => ?_)
  · have h := h.1 c5
    refine y_iconst C dX8_readMember_20 ⟨by decide, by decide⟩ (fun v6 t6 => ?_)
    exact uX8_readMember_21 C hw hS xt1 t1 t6 (lv_sub hl [1, 2, 0] rfl)  h
  · have h := h.2 c5
    refine y_iconst C dX8_readMember_16 ⟨by decide, by decide⟩ (fun v7 t7 => ?_)
    refine lv_goto (tgt := 21) C.1.1 C.1.2.1 dX8_readMember_17 (by decide) ?_
    exact uX8_readMember_21 C hw hS xt1 t1 t7 (lv_sub hl [1, 2, 0] rfl)  h
theorem kX8_readMember (l : Launch) (G : GG) (SB S : St) {xv1 : Int32} {x1 : Int} (xt1 : xv1.toInt = x1) {k : St → Prop} (h : wX8_readMember S x1 k) : CnV l yX8_readMember cX8_readMember 10 none 4 91 G (injR SB) [.ref (G.2.2 1042), .int xv1] S k :=
  cn_body (by decide +kernel) (Nat.le_of_ble_eq_true rfl) (fun p e s m args below meth c ls C hw hl => uX8_readMember_0 C hw va_S.rf xt1 (lv_sub hl [0, 1] rfl) h)
set_option maxHeartbeats 4000000 in
set_option maxRecDepth 10000 in
theorem uX8_puts_48 {p : Program} {l : Launch} {e : Env} {s : State} {m : MethodId} {args : Array Value} {below : List Frame} {meth : Method} {c : Code} {G : GG} {SB : St} (C : Cx p s m args meth c G RX8 cX8_puts 6 (some .boolean)) {S : St} {H : Heap} {locs : List Loc} {ls : Array Slot}  {k : Int → St → Prop} (hw : Wd G ((injR SB) S) H) (hS : va_S (AG G) s.heap H locs) {xv2 : Int32} {x2 : Int} (xt2 : xv2.toInt = x2) {xv4 : Int32} {x4 : Int} (xt4 : xv4.toInt = x4) {xv5 : Int32} {x5 : Int} (xt5 : xv5.toInt = x5) (hl : lv_has ls 6 [(0, .ref (G.2.2 1042)), (2, .int xv2), (4, .int xv4), (5, .int xv5)])  (h : wX8_puts_48 S x2 x4 x5 k) : W p l e (rmF 1 21) s m args below meth c H locs 0 0 (MQ below (QcI G (injR SB) k) args s 0 0 (AG G)) (F0 m 48 ls []) := by
  refine lv_aload_n C.1.1 C.1.2.1 dX8_puts_48 rfl (lv_at hl 0 rfl) ?_
  refine y_getA C fl_X8_76 hw (ocr SB) rfl (o := 13) rfl dX8_puts_49 ?_
  refine lv_aload_n C.1.1 C.1.2.1 dX8_puts_52 rfl (lv_at hl 0 rfl) ?_
  refine lv_iload_n C.1.1 C.1.2.1 dX8_puts_53 rfl (lv_at hl 1 rfl) ?_
  refine y_cVIp C (As := [.int xv2]) (rest := [.ref (G.2.2 (1055))]) ml_X8_214 (kX8_t l G SB S xt2 h) (ocr SB) (T := TX8) (N := 60) rfl (by decide) ⟨(Nat.le_of_ble_eq_true rfl), (Nat.le_of_ble_eq_true rfl)⟩ hl.1 rfl rfl (Nat.le_of_ble_eq_true rfl) hw hS dX8_puts_54 (fun v2 x_2 H locs t2 h hw hS => ?_)
  obtain ⟨b3, h⟩ := h
  refine y_iald C hw (acr_22 SB) t2 b3 dX8_puts_57 (fun v3 t3 => ?_)
  refine y_iconst C dX8_puts_58 ⟨by decide, by decide⟩ (fun v4 t4 => ?_)
  refine y_icmp_le C t3 t4 dX8_puts_59 (tgt := 82) (by decide) (fun c5 => ?_) (fun c5 => ?_)
  · have h := h.1 c5
    refine y_iconst C dX8_puts_82 ⟨by decide, by decide⟩ (fun v6 t6 => ?_)
    exact y_zret C hw hS t6 (Or.inl rfl) h dX8_puts_83
  · have h := h.2 c5
    refine lv_aload_n C.1.1 C.1.2.1 dX8_puts_62 rfl (lv_at hl 0 rfl) ?_
    refine y_getA C fl_X8_107 hw (ocr SB) rfl (o := 23) rfl dX8_puts_63 ?_
    refine y_iconst C dX8_puts_66 ⟨by decide, by decide⟩ (fun v8 t8 => ?_)
    refine lv_iload C.1.1 C.1.2.1 dX8_puts_67 (lv_at hl 3 rfl) ?_
    refine y_imul C t8 xt5 dX8_puts_69 (fun v9 t9 => ?_)
    refine y_iconst C dX8_puts_70 ⟨by decide, by decide⟩ (fun v10 t10 => ?_)
    refine y_iadd C t9 t10 dX8_puts_71 (fun v11 t11 => ?_)
    obtain ⟨b12, h⟩ := h
    refine y_iald C hw (acr_32 SB) t11 b12 dX8_puts_72 (fun v12 t12 => ?_)
    refine lv_iload C.1.1 C.1.2.1 dX8_puts_73 (lv_at hl 2 rfl) ?_
    refine y_icmp_eq C t12 xt4 dX8_puts_75 (tgt := 82) (by decide) (fun c13 => ?_) (fun c13 => ?_)
    · have h := h.1 c13
      refine y_iconst C dX8_puts_82 ⟨by decide, by decide⟩ (fun v14 t14 => ?_)
      exact y_zret C hw hS t14 (Or.inl rfl) h dX8_puts_83
    · have h := h.2 c13
      refine y_iconst C dX8_puts_78 ⟨by decide, by decide⟩ (fun v15 t15 => ?_)
      refine lv_goto (tgt := 83) C.1.1 C.1.2.1 dX8_puts_79 (by decide) ?_
      exact y_zret C hw hS t15 (Or.inr rfl) h dX8_puts_83
set_option maxHeartbeats 4000000 in
set_option maxRecDepth 10000 in
theorem uX8_puts_0 {p : Program} {l : Launch} {e : Env} {s : State} {m : MethodId} {args : Array Value} {below : List Frame} {meth : Method} {c : Code} {G : GG} {SB : St} (C : Cx p s m args meth c G RX8 cX8_puts 6 (some .boolean)) {S : St} {H : Heap} {locs : List Loc} {ls : Array Slot}  {k : Int → St → Prop} (hw : Wd G ((injR SB) S) H) (hS : va_S (AG G) s.heap H locs) {xv1 : Int32} {x1 : Int} (xt1 : xv1.toInt = x1) {xv2 : Int32} {x2 : Int} (xt2 : xv2.toInt = x2) {xv3 : Int32} {x3 : Int} (xt3 : xv3.toInt = x3) {xv4 : Int32} {x4 : Int} (xt4 : xv4.toInt = x4) (hl : lv_has ls 6 [(0, .ref (G.2.2 1042)), (1, .int xv1), (2, .int xv2), (3, .int xv3), (4, .int xv4)])  (h : wX8_puts_0 S x1 x2 x3 x4 k) : W p l e (rmF 1 21) s m args below meth c H locs 0 0 (MQ below (QcI G (injR SB) k) args s 0 0 (AG G)) (F0 m 0 ls []) := by
  refine y_bipush C dX8_puts_0 ⟨by decide, by decide⟩ (fun v1 t1 => ?_)
  refine lv_aload_n C.1.1 C.1.2.1 dX8_puts_2 rfl (lv_at hl 0 rfl) ?_
  refine lv_iload_n C.1.1 C.1.2.1 dX8_puts_3 rfl (lv_at hl 1 rfl) ?_
  refine y_cVIp C (As := [.int xv1]) (rest := [.int v1]) ml_X8_214 (kX8_t l G SB S xt1 h) (ocr SB) (T := TX8) (N := 60) rfl (by decide) ⟨(Nat.le_of_ble_eq_true rfl), (Nat.le_of_ble_eq_true rfl)⟩ hl.1 rfl rfl (Nat.le_of_ble_eq_true rfl) hw hS dX8_puts_4 (fun v2 x_2 H locs t2 h hw hS => ?_)
  refine y_imul C t1 t2 dX8_puts_7 (fun v3 t3 => ?_)
  refine lv_iload_n C.1.1 C.1.2.1 dX8_puts_8 rfl (lv_at hl 2 rfl) ?_
  refine y_iadd C t3 xt2 dX8_puts_9 (fun v4 t4 => ?_)
  obtain ⟨x_5, e5⟩ : ∃ z : Int, z = w32 (w32 (24 * x_2) + x2) := ⟨_, rfl⟩
  have h := h x_5 e5
  have t5 := t4.trans e5.symm
  refine lv_istore (lv' := [(5, .int v4), (0, .ref (G.2.2 1042)), (1, .int xv1), (2, .int xv2), (3, .int xv3), (4, .int xv4)]) C.1.1 C.1.2.1 dX8_puts_10 hl (by decide) rfl (fun ls hl => ?_)
  refine lv_aload_n C.1.1 C.1.2.1 dX8_puts_12 rfl (lv_at hl 1 rfl) ?_
  refine y_getA C fl_X8_103 hw (ocr SB) rfl (o := 22) rfl dX8_puts_13 ?_
  refine lv_iload C.1.1 C.1.2.1 dX8_puts_16 (lv_at hl 0 rfl) ?_
  obtain ⟨b7, h⟩ := h
  refine y_zald C hw (acr_31 SB) t5 b7 dX8_puts_18 (fun v7 t7 => ?_)
  refine y_if_eq C t7 dX8_puts_19 (tgt := 84) (by decide) (fun c8 => ?_) (fun c8 => ?_)
  · have h := h.1 c8
    refine lv_aload_n C.1.1 C.1.2.1 dX8_puts_84 rfl (lv_at hl 1 rfl) ?_
    refine y_getA C fl_X8_103 hw (ocr SB) rfl (o := 22) rfl dX8_puts_85 ?_
    refine lv_iload C.1.1 C.1.2.1 dX8_puts_88 (lv_at hl 0 rfl) ?_
    refine y_iconst C dX8_puts_90 ⟨by decide, by decide⟩ (fun v10 t10 => ?_)
    obtain ⟨b11, h⟩ := h
    obtain ⟨S_11, e11⟩ : ∃ z : St, z = up S 22 x_5 1 := ⟨_, rfl⟩
    have h := h S_11 e11
    refine y_zast C hw hS (acr_31 SB) t5 t10 (Or.inr rfl) b11 dX8_puts_91 (fun H locs hw hS => ?_)
    have hw : Wd G ((injR SB) S_11) H := by rw [e11]; exact hw
    refine lv_aload_n C.1.1 C.1.2.1 dX8_puts_92 rfl (lv_at hl 1 rfl) ?_
    refine y_getA C fl_X8_100 hw (ocr SB) rfl (o := 21) rfl dX8_puts_93 ?_
    refine y_bipush C dX8_puts_96 ⟨by decide, by decide⟩ (fun v13 t13 => ?_)
    refine lv_aload_n C.1.1 C.1.2.1 dX8_puts_98 rfl (lv_at hl 1 rfl) ?_
    refine lv_iload_n C.1.1 C.1.2.1 dX8_puts_99 rfl (lv_at hl 2 rfl) ?_
    refine y_cVIp C (As := [.int xv1]) (rest := [.int v13, .ref (G.2.2 (1063))]) ml_X8_214 (kX8_t l G SB S_11 xt1 h) (ocr SB) (T := TX8) (N := 60) rfl (by decide) ⟨(Nat.le_of_ble_eq_true rfl), (Nat.le_of_ble_eq_true rfl)⟩ hl.1 rfl rfl (Nat.le_of_ble_eq_true rfl) hw hS dX8_puts_100 (fun v14 x_14 H locs t14 h hw hS => ?_)
    refine y_imul C t13 t14 dX8_puts_103 (fun v15 t15 => ?_)
    refine lv_aload_n C.1.1 C.1.2.1 dX8_puts_104 rfl (lv_at hl 1 rfl) ?_
    refine y_getA C fl_X8_97 hw (ocr SB) rfl (o := 20) rfl dX8_puts_105 ?_
    refine lv_aload_n C.1.1 C.1.2.1 dX8_puts_108 rfl (lv_at hl 1 rfl) ?_
    refine lv_iload_n C.1.1 C.1.2.1 dX8_puts_109 rfl (lv_at hl 2 rfl) ?_
    refine y_cVIp C (As := [.int xv1]) (rest := [.ref (G.2.2 (1062)), .int v15, .ref (G.2.2 (1063))]) ml_X8_214 (kX8_t l G SB S_11 xt1 h) (ocr SB) (T := TX8) (N := 60) rfl (by decide) ⟨(Nat.le_of_ble_eq_true rfl), (Nat.le_of_ble_eq_true rfl)⟩ hl.1 rfl rfl (Nat.le_of_ble_eq_true rfl) hw hS dX8_puts_110 (fun v17 x_17 H locs t17 h hw hS => ?_)
    obtain ⟨b18, h⟩ := h
    refine y_iald C hw (acr_29 SB) t17 b18 dX8_puts_113 (fun v18 t18 => ?_)
    refine y_iadd C t15 t18 dX8_puts_114 (fun v19 t19 => ?_)
    refine lv_iload_n C.1.1 C.1.2.1 dX8_puts_115 rfl (lv_at hl 3 rfl) ?_
    obtain ⟨b20, h⟩ := h
    obtain ⟨S_20, e20⟩ : ∃ z : St, z = up S_11 21 (w32 (w32 (24 * x_14) + S_11 20 x_17)) x2 := ⟨_, rfl⟩
    have h := h S_20 e20
    refine y_iast C hw hS (acr_30 SB) t19 xt2 b20 dX8_puts_116 (fun H locs hw hS => ?_)
    have hw : Wd G ((injR SB) S_20) H := by rw [e20]; exact hw
    refine lv_aload_n C.1.1 C.1.2.1 dX8_puts_117 rfl (lv_at hl 1 rfl) ?_
    refine y_getA C fl_X8_97 hw (ocr SB) rfl (o := 20) rfl dX8_puts_118 ?_
    refine lv_aload_n C.1.1 C.1.2.1 dX8_puts_121 rfl (lv_at hl 1 rfl) ?_
    refine lv_iload_n C.1.1 C.1.2.1 dX8_puts_122 rfl (lv_at hl 2 rfl) ?_
    refine y_cVIp C (As := [.int xv1]) (rest := [.ref (G.2.2 (1062))]) ml_X8_214 (kX8_t l G SB S_20 xt1 h) (ocr SB) (T := TX8) (N := 60) rfl (by decide) ⟨(Nat.le_of_ble_eq_true rfl), (Nat.le_of_ble_eq_true rfl)⟩ hl.1 rfl rfl (Nat.le_of_ble_eq_true rfl) hw hS dX8_puts_123 (fun v22 x_22 H locs t22 h hw hS => ?_)
    refine lv_dup2_11 C.1.1 C.1.2.1 dX8_puts_126 rfl rfl ?_
    obtain ⟨b23, h⟩ := h
    refine y_iald C hw (acr_29 SB) t22 b23 dX8_puts_127 (fun v23 t23 => ?_)
    refine y_iconst C dX8_puts_128 ⟨by decide, by decide⟩ (fun v24 t24 => ?_)
    refine y_iadd C t23 t24 dX8_puts_129 (fun v25 t25 => ?_)
    obtain ⟨b26, h⟩ := h
    obtain ⟨S_26, e26⟩ : ∃ z : St, z = up S_20 20 x_22 (w32 (S_20 20 x_22 + 1)) := ⟨_, rfl⟩
    have h := h S_26 e26
    refine y_iast C hw hS (acr_29 SB) t22 t25 b26 dX8_puts_130 (fun H locs hw hS => ?_)
    have hw : Wd G ((injR SB) S_26) H := by rw [e26]; exact hw
    refine lv_aload_n C.1.1 C.1.2.1 dX8_puts_131 rfl (lv_at hl 1 rfl) ?_
    refine y_getA C fl_X8_107 hw (ocr SB) rfl (o := 23) rfl dX8_puts_132 ?_
    refine y_iconst C dX8_puts_135 ⟨by decide, by decide⟩ (fun v28 t28 => ?_)
    refine lv_iload C.1.1 C.1.2.1 dX8_puts_136 (lv_at hl 0 rfl) ?_
    refine y_imul C t28 t5 dX8_puts_138 (fun v29 t29 => ?_)
    refine lv_iload_n C.1.1 C.1.2.1 dX8_puts_139 rfl (lv_at hl 4 rfl) ?_
    obtain ⟨b30, h⟩ := h
    obtain ⟨S_30, e30⟩ : ∃ z : St, z = up S_26 23 (w32 (2 * x_5)) x3 := ⟨_, rfl⟩
    have h := h S_30 e30
    refine y_iast C hw hS (acr_32 SB) t29 xt3 b30 dX8_puts_140 (fun H locs hw hS => ?_)
    have hw : Wd G ((injR SB) S_30) H := by rw [e30]; exact hw
    refine lv_aload_n C.1.1 C.1.2.1 dX8_puts_141 rfl (lv_at hl 1 rfl) ?_
    refine y_getA C fl_X8_107 hw (ocr SB) rfl (o := 23) rfl dX8_puts_142 ?_
    refine y_iconst C dX8_puts_145 ⟨by decide, by decide⟩ (fun v32 t32 => ?_)
    refine lv_iload C.1.1 C.1.2.1 dX8_puts_146 (lv_at hl 0 rfl) ?_
    refine y_imul C t32 t5 dX8_puts_148 (fun v33 t33 => ?_)
    refine y_iconst C dX8_puts_149 ⟨by decide, by decide⟩ (fun v34 t34 => ?_)
    refine y_iadd C t33 t34 dX8_puts_150 (fun v35 t35 => ?_)
    refine lv_iload C.1.1 C.1.2.1 dX8_puts_151 (lv_at hl 5 rfl) ?_
    obtain ⟨b36, h⟩ := h
    obtain ⟨S_36, e36⟩ : ∃ z : St, z = up S_30 23 (w32 (w32 (2 * x_5) + 1)) x4 := ⟨_, rfl⟩
    have h := h S_36 e36
    refine y_iast C hw hS (acr_32 SB) t35 xt4 b36 dX8_puts_153 (fun H locs hw hS => ?_)
    have hw : Wd G ((injR SB) S_36) H := by rw [e36]; exact hw
    refine y_iconst C dX8_puts_154 ⟨by decide, by decide⟩ (fun v37 t37 => ?_)
    exact y_zret C hw hS t37 (Or.inl rfl) h dX8_puts_155
  · have h := h.2 c8
    refine lv_aload_n C.1.1 C.1.2.1 dX8_puts_22 rfl (lv_at hl 1 rfl) ?_
    refine y_getA C fl_X8_76 hw (ocr SB) rfl (o := 13) rfl dX8_puts_23 ?_
    refine lv_aload_n C.1.1 C.1.2.1 dX8_puts_26 rfl (lv_at hl 1 rfl) ?_
    refine lv_iload_n C.1.1 C.1.2.1 dX8_puts_27 rfl (lv_at hl 3 rfl) ?_
    refine y_cVIp C (As := [.int xv2]) (rest := [.ref (G.2.2 (1055))]) ml_X8_214 (kX8_t l G SB S xt2 h) (ocr SB) (T := TX8) (N := 60) rfl (by decide) ⟨(Nat.le_of_ble_eq_true rfl), (Nat.le_of_ble_eq_true rfl)⟩ hl.1 rfl rfl (Nat.le_of_ble_eq_true rfl) hw hS dX8_puts_28 (fun v39 x_39 H locs t39 h hw hS => ?_)
    obtain ⟨b40, h⟩ := h
    refine y_iald C hw (acr_22 SB) t39 b40 dX8_puts_31 (fun v40 t40 => ?_)
    refine y_if_le C t40 dX8_puts_32 (tgt := 48) (by decide) (fun c41 => ?_) (fun c41 => ?_)
    · have h := h.1 c41
      exact uX8_puts_48 C hw hS xt2 xt4 t5 (lv_sub hl [1, 3, 5, 0] rfl)  h
    · have h := h.2 c41
      refine lv_aload_n C.1.1 C.1.2.1 dX8_puts_35 rfl (lv_at hl 1 rfl) ?_
      refine y_getA C fl_X8_107 hw (ocr SB) rfl (o := 23) rfl dX8_puts_36 ?_
      refine y_iconst C dX8_puts_39 ⟨by decide, by decide⟩ (fun v43 t43 => ?_)
      refine lv_iload C.1.1 C.1.2.1 dX8_puts_40 (lv_at hl 0 rfl) ?_
      refine y_imul C t43 t5 dX8_puts_42 (fun v44 t44 => ?_)
      obtain ⟨b45, h⟩ := h
      refine y_iald C hw (acr_32 SB) t44 b45 dX8_puts_43 (fun v45 t45 => ?_)
      refine lv_iload_n C.1.1 C.1.2.1 dX8_puts_44 rfl (lv_at hl 4 rfl) ?_
      refine y_icmp_ne C t45 xt3 dX8_puts_45 (tgt := 78) (by decide) (fun c46 => ?_) (fun c46 => ?_)
      · have h := h.1 c46
        refine y_iconst C dX8_puts_78 ⟨by decide, by decide⟩ (fun v47 t47 => ?_)
        refine lv_goto (tgt := 83) C.1.1 C.1.2.1 dX8_puts_79 (by decide) ?_
        exact y_zret C hw hS t47 (Or.inr rfl) h dX8_puts_83
      · have h := h.2 c46
        exact uX8_puts_48 C hw hS xt2 xt4 t5 (lv_sub hl [1, 3, 5, 0] rfl)  h
theorem kX8_puts (l : Launch) (G : GG) (SB S : St) {xv1 : Int32} {x1 : Int} (xt1 : xv1.toInt = x1) {xv2 : Int32} {x2 : Int} (xt2 : xv2.toInt = x2) {xv3 : Int32} {x3 : Int} (xt3 : xv3.toInt = x3) {xv4 : Int32} {x4 : Int} (xt4 : xv4.toInt = x4) {k : Int → St → Prop} (h : wX8_puts S x1 x2 x3 x4 k) : CnI l yX8_puts cX8_puts 6 (some .boolean) 1 21 G (injR SB) [.ref (G.2.2 1042), .int xv1, .int xv2, .int xv3, .int xv4] S k :=
  cn_body (by decide +kernel) (Nat.le_of_ble_eq_true rfl) (fun p e s m args below meth c ls C hw hl => uX8_puts_0 C hw va_S.rf xt1 xt2 xt3 xt4 (lv_sub hl [0, 1, 2, 3, 4] rfl) h)
set_option maxHeartbeats 4000000 in
set_option maxRecDepth 10000 in
theorem uX8_replaced_0 {p : Program} {l : Launch} {e : Env} {s : State} {m : MethodId} {args : Array Value} {below : List Frame} {meth : Method} {c : Code} {G : GG} {SB : St} (C : Cx p s m args meth c G RX8 cX8_replaced 3 (some .int)) {S : St} {H : Heap} {locs : List Loc} {ls : Array Slot}  {k : Int → Prop} (hw : Wd G ((injR SB) S) H) (hS : va_S (AG G) s.heap H locs) {xv1 : Int32} {x1 : Int} (xt1 : xv1.toInt = x1) {xv2 : Int32} {x2 : Int} (xt2 : xv2.toInt = x2) (hl : lv_has ls 3 [(0, .ref (G.2.2 1042)), (1, .int xv1), (2, .int xv2)])  (h : wX8_replaced_0 S x1 x2 k) : W p l e (rmF 0 0) s m args below meth c H locs 0 0 (MQ below (QcI G (injR SB) (fun r u => k r ∧ u = S)) args s 0 0 (AG G)) (F0 m 0 ls []) := by
  refine lv_iload_n C.1.1 C.1.2.1 dX8_replaced_0 rfl (lv_at hl 1 rfl) ?_
  refine y_bipush C dX8_replaced_1 ⟨by decide, by decide⟩ (fun v1 t1 => ?_)
  refine y_icmp_lt C xt1 t1 dX8_replaced_3 (tgt := 22) (by decide) (fun c2 => ?_) (fun c2 => ?_)
  · have h := h.1 c2
    refine lv_iload_n C.1.1 C.1.2.1 dX8_replaced_22 rfl (lv_at hl 1 rfl) ?_
    exact y_iret C hw hS xt1 ⟨h, rfl⟩ dX8_replaced_23
  · have h := h.2 c2
    refine lv_aload_n C.1.1 C.1.2.1 dX8_replaced_6 rfl (lv_at hl 0 rfl) ?_
    refine y_getA C fl_X8_91 hw (ocr SB) rfl (o := 18) rfl dX8_replaced_7 ?_
    refine y_iconst C dX8_replaced_10 ⟨by decide, by decide⟩ (fun v4 t4 => ?_)
    refine lv_iload_n C.1.1 C.1.2.1 dX8_replaced_11 rfl (lv_at hl 2 rfl) ?_
    refine y_imul C t4 xt2 dX8_replaced_12 (fun v5 t5 => ?_)
    refine lv_iload_n C.1.1 C.1.2.1 dX8_replaced_13 rfl (lv_at hl 1 rfl) ?_
    refine y_iadd C t5 xt1 dX8_replaced_14 (fun v6 t6 => ?_)
    refine y_bipush C dX8_replaced_15 ⟨by decide, by decide⟩ (fun v7 t7 => ?_)
    refine y_isub C t6 t7 dX8_replaced_17 (fun v8 t8 => ?_)
    obtain ⟨b9, h⟩ := h
    refine y_iald C hw (acr_27 SB) t8 b9 dX8_replaced_18 (fun v9 t9 => ?_)
    refine lv_goto (tgt := 23) C.1.1 C.1.2.1 dX8_replaced_19 (by decide) ?_
    exact y_iret C hw hS t9 ⟨h, rfl⟩ dX8_replaced_23
theorem kX8_replaced (l : Launch) (G : GG) (SB S : St) {xv1 : Int32} {x1 : Int} (xt1 : xv1.toInt = x1) {xv2 : Int32} {x2 : Int} (xt2 : xv2.toInt = x2) {k : Int → Prop} (h : wX8_replaced S x1 x2 k) : CnI l yX8_replaced cX8_replaced 3 (some .int) 0 0 G (injR SB) [.ref (G.2.2 1042), .int xv1, .int xv2] S (fun r u => k r ∧ u = S) :=
  cn_body (by decide +kernel) (Nat.le_of_ble_eq_true rfl) (fun p e s m args below meth c ls C hw hl => uX8_replaced_0 C hw va_S.rf xt1 xt2 (lv_sub hl [0, 1, 2] rfl) h)
set_option maxHeartbeats 4000000 in
set_option maxRecDepth 10000 in
theorem uX8_isTorn_239 {p : Program} {l : Launch} {e : Env} {s : State} {m : MethodId} {args : Array Value} {below : List Frame} {meth : Method} {c : Code} {G : GG} {SB : St} (C : Cx p s m args meth c G RX8 cX8_isTorn 11 (some .boolean)) {S : St} {H : Heap} {locs : List Loc} {ls : Array Slot} {P44 : Int → Int → St → Prop} {P115 : Int → Int → St → Prop} {k : Int → St → Prop} (hw : Wd G ((injR SB) S) H) (hS : va_S (AG G) s.heap H locs) {xv1 : Int32} {x1 : Int} (xt1 : xv1.toInt = x1) {xv2 : Int32} {x2 : Int} (xt2 : xv2.toInt = x2) {xv4 : Int32} {x4 : Int} (xt4 : xv4.toInt = x4) {xv5 : Int32} {x5 : Int} (xt5 : xv5.toInt = x5) {xv6 : Int32} {x6 : Int} (xt6 : xv6.toInt = x6) {xv7 : Int32} {x7 : Int} (xt7 : xv7.toInt = x7) (hl : lv_has ls 11 [(0, .ref (G.2.2 1042)), (1, .int xv1), (2, .int xv2), (4, .int xv4), (5, .int xv5), (6, .int xv6), (7, .int xv7)]) (hP44 : ∀ {H : Heap} {locs : List Loc} {ls : Array Slot} {Sy : St} {yv3 : Int32} {y3 : Int} {yv4 : Int32} {y4 : Int}, yv3.toInt = y3 → yv4.toInt = y4 → Wd G ((injR SB) Sy) H → va_S (AG G) s.heap H locs → lv_has ls 11 [(0, .ref (G.2.2 1042)), (1, .int xv1), (2, .int xv2), (3, .int yv3), (4, .int yv4)] → P44 y3 y4 Sy → W p l e (rmF 2 46) s m args below meth c H locs 0 0 (MQ below (QcI G (injR SB) k) args s 0 0 (AG G)) (F0 m 44 ls [])) (hP115 : ∀ {H : Heap} {locs : List Loc} {ls : Array Slot} {Sy : St} {yv3 : Int32} {y3 : Int} {yv7 : Int32} {y7 : Int}, yv3.toInt = y3 → yv7.toInt = y7 → Wd G ((injR SB) Sy) H → va_S (AG G) s.heap H locs → lv_has ls 11 [(0, .ref (G.2.2 1042)), (1, .int xv1), (2, .int xv2), (3, .int yv3), (4, .int xv4), (5, .int xv5), (6, .int xv6), (7, .int yv7)] → P115 y3 y7 Sy → W p l e (rmF 2 46) s m args below meth c H locs 0 0 (MQ below (QcI G (injR SB) k) args s 0 0 (AG G)) (F0 m 115 ls [])) (h : wX8_isTorn_239 S x1 x2 x4 x5 x6 x7 P44 P115 k) : W p l e (rmF 2 46) s m args below meth c H locs 0 0 (MQ below (QcI G (injR SB) k) args s 0 0 (AG G)) (F0 m 239 ls []) := by
  refine y_iconst C dX8_isTorn_239 ⟨by decide, by decide⟩ (fun v1 t1 => ?_)
  refine lv_goto (tgt := 244) C.1.1 C.1.2.1 dX8_isTorn_240 (by decide) ?_
  refine lv_istore_n (lv' := [(3, .int v1), (0, .ref (G.2.2 1042)), (1, .int xv1), (2, .int xv2), (4, .int xv4), (5, .int xv5), (6, .int xv6), (7, .int xv7)]) C.1.1 C.1.2.1 dX8_isTorn_244 rfl hl (by decide) rfl (fun ls hl => ?_)
  obtain ⟨x_2, e2⟩ : ∃ z : Int, z = w32 (x7 + 1) := ⟨_, rfl⟩
  have h := h x_2 e2
  obtain ⟨v2, t2, g2⟩ : ∃ z : Int32, z.toInt = x_2 ∧ xv7 + Int32.ofInt 1 = z := ⟨_, (ti_inc xt7 ⟨by decide, by decide⟩).trans e2.symm, rfl⟩
  refine lv_iinc (v := v2) (lv' := [(7, .int v2), (3, .int v1), (0, .ref (G.2.2 1042)), (1, .int xv1), (2, .int xv2), (4, .int xv4), (5, .int xv5), (6, .int xv6)]) C.1.1 C.1.2.1 dX8_isTorn_245 hl (k := 7) rfl g2 (by decide) rfl (fun ls hl => ?_)
  refine lv_goto (tgt := 115) C.1.1 C.1.2.1 dX8_isTorn_248 (by decide) ?_
  exact hP115 t1 t2 hw hS (lv_sub hl [2, 3, 4, 1, 5, 6, 7, 0] rfl) h
set_option maxHeartbeats 4000000 in
set_option maxRecDepth 10000 in
theorem uX8_isTorn_219 {p : Program} {l : Launch} {e : Env} {s : State} {m : MethodId} {args : Array Value} {below : List Frame} {meth : Method} {c : Code} {G : GG} {SB : St} (C : Cx p s m args meth c G RX8 cX8_isTorn 11 (some .boolean)) {S : St} {H : Heap} {locs : List Loc} {ls : Array Slot} {P44 : Int → Int → St → Prop} {P115 : Int → Int → St → Prop} {k : Int → St → Prop} (hw : Wd G ((injR SB) S) H) (hS : va_S (AG G) s.heap H locs) {xv1 : Int32} {x1 : Int} (xt1 : xv1.toInt = x1) {xv2 : Int32} {x2 : Int} (xt2 : xv2.toInt = x2) {xv3 : Int32} {x3 : Int} (xt3 : xv3.toInt = x3) {xv4 : Int32} {x4 : Int} (xt4 : xv4.toInt = x4) {xv5 : Int32} {x5 : Int} (xt5 : xv5.toInt = x5) {xv6 : Int32} {x6 : Int} (xt6 : xv6.toInt = x6) {xv7 : Int32} {x7 : Int} (xt7 : xv7.toInt = x7) {xv8 : Int32} {x8 : Int} (xt8 : xv8.toInt = x8) {xv9 : Int32} {x9 : Int} (xt9 : xv9.toInt = x9) {sv0 : Int32} {s0 : Int} (st0 : sv0.toInt = s0) (hl : lv_has ls 11 [(0, .ref (G.2.2 1042)), (1, .int xv1), (2, .int xv2), (3, .int xv3), (4, .int xv4), (5, .int xv5), (6, .int xv6), (7, .int xv7), (8, .int xv8), (9, .int xv9)]) (hP44 : ∀ {H : Heap} {locs : List Loc} {ls : Array Slot} {Sy : St} {yv3 : Int32} {y3 : Int} {yv4 : Int32} {y4 : Int}, yv3.toInt = y3 → yv4.toInt = y4 → Wd G ((injR SB) Sy) H → va_S (AG G) s.heap H locs → lv_has ls 11 [(0, .ref (G.2.2 1042)), (1, .int xv1), (2, .int xv2), (3, .int yv3), (4, .int yv4)] → P44 y3 y4 Sy → W p l e (rmF 2 46) s m args below meth c H locs 0 0 (MQ below (QcI G (injR SB) k) args s 0 0 (AG G)) (F0 m 44 ls [])) (hP115 : ∀ {H : Heap} {locs : List Loc} {ls : Array Slot} {Sy : St} {yv3 : Int32} {y3 : Int} {yv7 : Int32} {y7 : Int}, yv3.toInt = y3 → yv7.toInt = y7 → Wd G ((injR SB) Sy) H → va_S (AG G) s.heap H locs → lv_has ls 11 [(0, .ref (G.2.2 1042)), (1, .int xv1), (2, .int xv2), (3, .int yv3), (4, .int xv4), (5, .int xv5), (6, .int xv6), (7, .int yv7)] → P115 y3 y7 Sy → W p l e (rmF 2 46) s m args below meth c H locs 0 0 (MQ below (QcI G (injR SB) k) args s 0 0 (AG G)) (F0 m 115 ls [])) (h : wX8_isTorn_219 S x1 x2 x3 x4 x5 x6 x7 x8 x9 s0 P44 P115 k) : W p l e (rmF 2 46) s m args below meth c H locs 0 0 (MQ below (QcI G (injR SB) k) args s 0 0 (AG G)) (F0 m 219 ls [.int sv0]) := by
  refine lv_istore (lv' := [(10, .int sv0), (0, .ref (G.2.2 1042)), (1, .int xv1), (2, .int xv2), (3, .int xv3), (4, .int xv4), (5, .int xv5), (6, .int xv6), (7, .int xv7), (8, .int xv8), (9, .int xv9)]) C.1.1 C.1.2.1 dX8_isTorn_219 hl (by decide) rfl (fun ls hl => ?_)
  refine lv_aload_n C.1.1 C.1.2.1 dX8_isTorn_221 rfl (lv_at hl 1 rfl) ?_
  refine lv_iload_n C.1.1 C.1.2.1 dX8_isTorn_222 rfl (lv_at hl 2 rfl) ?_
  refine lv_iload C.1.1 C.1.2.1 dX8_isTorn_223 (lv_at hl 9 rfl) ?_
  refine lv_iload C.1.1 C.1.2.1 dX8_isTorn_225 (lv_at hl 10 rfl) ?_
  refine lv_iload C.1.1 C.1.2.1 dX8_isTorn_227 (lv_at hl 0 rfl) ?_
  refine y_cVI C (As := [.int xv1, .int xv8, .int xv9, .int sv0]) (rest := []) ml_X8_319 (kX8_puts l G SB S xt1 xt8 xt9 st0 h) (ocr SB) (T := TX8) (N := 60) rfl (by decide) ⟨(Nat.le_of_ble_eq_true rfl), (Nat.le_of_ble_eq_true rfl)⟩ hl.1 rfl rfl (Nat.le_of_ble_eq_true rfl) hw hS dX8_isTorn_229 (fun v1 x_1 S_1 H locs t1 h hw hS => ?_)
  refine y_if_ne C t1 dX8_isTorn_232 (tgt := 239) (by decide) (fun c2 => ?_) (fun c2 => ?_)
  · have h := h.1 c2
    exact uX8_isTorn_239 C hw hS xt1 xt2 xt4 xt5 xt6 xt7 (lv_sub hl [1, 2, 3, 5, 6, 7, 8] rfl) hP44 hP115 h
  · have h := h.2 c2
    refine lv_iload_n C.1.1 C.1.2.1 dX8_isTorn_235 rfl (lv_at hl 4 rfl) ?_
    refine y_if_eq C xt3 dX8_isTorn_236 (tgt := 243) (by decide) (fun c3 => ?_) (fun c3 => ?_)
    · have h := h.1 c3
      refine y_iconst C dX8_isTorn_243 ⟨by decide, by decide⟩ (fun v4 t4 => ?_)
      refine lv_istore_n (lv' := [(3, .int v4), (10, .int sv0), (0, .ref (G.2.2 1042)), (1, .int xv1), (2, .int xv2), (4, .int xv4), (5, .int xv5), (6, .int xv6), (7, .int xv7), (8, .int xv8), (9, .int xv9)]) C.1.1 C.1.2.1 dX8_isTorn_244 rfl hl (by decide) rfl (fun ls hl => ?_)
      obtain ⟨x_5, e5⟩ : ∃ z : Int, z = w32 (x7 + 1) := ⟨_, rfl⟩
      have h := h x_5 e5
      obtain ⟨v5, t5, g5⟩ : ∃ z : Int32, z.toInt = x_5 ∧ xv7 + Int32.ofInt 1 = z := ⟨_, (ti_inc xt7 ⟨by decide, by decide⟩).trans e5.symm, rfl⟩
      refine lv_iinc (v := v5) (lv' := [(7, .int v5), (3, .int v4), (10, .int sv0), (0, .ref (G.2.2 1042)), (1, .int xv1), (2, .int xv2), (4, .int xv4), (5, .int xv5), (6, .int xv6), (8, .int xv8), (9, .int xv9)]) C.1.1 C.1.2.1 dX8_isTorn_245 hl (k := 8) rfl g5 (by decide) rfl (fun ls hl => ?_)
      refine lv_goto (tgt := 115) C.1.1 C.1.2.1 dX8_isTorn_248 (by decide) ?_
      exact hP115 t4 t5 hw hS (lv_sub hl [3, 4, 5, 1, 6, 7, 8, 0] rfl) h
    · have h := h.2 c3
      exact uX8_isTorn_239 C hw hS xt1 xt2 xt4 xt5 xt6 xt7 (lv_sub hl [1, 2, 3, 5, 6, 7, 8] rfl) hP44 hP115 h
set_option maxHeartbeats 4000000 in
set_option maxRecDepth 10000 in
theorem uX8_isTorn_183 {p : Program} {l : Launch} {e : Env} {s : State} {m : MethodId} {args : Array Value} {below : List Frame} {meth : Method} {c : Code} {G : GG} {SB : St} (C : Cx p s m args meth c G RX8 cX8_isTorn 11 (some .boolean)) {S : St} {H : Heap} {locs : List Loc} {ls : Array Slot} {P44 : Int → Int → St → Prop} {P115 : Int → Int → St → Prop} {k : Int → St → Prop} (hw : Wd G ((injR SB) S) H) (hS : va_S (AG G) s.heap H locs) {xv1 : Int32} {x1 : Int} (xt1 : xv1.toInt = x1) {xv2 : Int32} {x2 : Int} (xt2 : xv2.toInt = x2) {xv3 : Int32} {x3 : Int} (xt3 : xv3.toInt = x3) {xv4 : Int32} {x4 : Int} (xt4 : xv4.toInt = x4) {xv5 : Int32} {x5 : Int} (xt5 : xv5.toInt = x5) {xv6 : Int32} {x6 : Int} (xt6 : xv6.toInt = x6) {xv7 : Int32} {x7 : Int} (xt7 : xv7.toInt = x7) {xv8 : Int32} {x8 : Int} (xt8 : xv8.toInt = x8) {sv0 : Int32} {s0 : Int} (st0 : sv0.toInt = s0) (hl : lv_has ls 11 [(0, .ref (G.2.2 1042)), (1, .int xv1), (2, .int xv2), (3, .int xv3), (4, .int xv4), (5, .int xv5), (6, .int xv6), (7, .int xv7), (8, .int xv8)]) (hP44 : ∀ {H : Heap} {locs : List Loc} {ls : Array Slot} {Sy : St} {yv3 : Int32} {y3 : Int} {yv4 : Int32} {y4 : Int}, yv3.toInt = y3 → yv4.toInt = y4 → Wd G ((injR SB) Sy) H → va_S (AG G) s.heap H locs → lv_has ls 11 [(0, .ref (G.2.2 1042)), (1, .int xv1), (2, .int xv2), (3, .int yv3), (4, .int yv4)] → P44 y3 y4 Sy → W p l e (rmF 2 46) s m args below meth c H locs 0 0 (MQ below (QcI G (injR SB) k) args s 0 0 (AG G)) (F0 m 44 ls [])) (hP115 : ∀ {H : Heap} {locs : List Loc} {ls : Array Slot} {Sy : St} {yv3 : Int32} {y3 : Int} {yv7 : Int32} {y7 : Int}, yv3.toInt = y3 → yv7.toInt = y7 → Wd G ((injR SB) Sy) H → va_S (AG G) s.heap H locs → lv_has ls 11 [(0, .ref (G.2.2 1042)), (1, .int xv1), (2, .int xv2), (3, .int yv3), (4, .int xv4), (5, .int xv5), (6, .int xv6), (7, .int yv7)] → P115 y3 y7 Sy → W p l e (rmF 2 46) s m args below meth c H locs 0 0 (MQ below (QcI G (injR SB) k) args s 0 0 (AG G)) (F0 m 115 ls [])) (h : wX8_isTorn_183 S x1 x2 x3 x4 x5 x6 x7 x8 s0 P44 P115 k) : W p l e (rmF 2 46) s m args below meth c H locs 0 0 (MQ below (QcI G (injR SB) k) args s 0 0 (AG G)) (F0 m 183 ls [.int sv0]) := by
  refine lv_istore (lv' := [(9, .int sv0), (0, .ref (G.2.2 1042)), (1, .int xv1), (2, .int xv2), (3, .int xv3), (4, .int xv4), (5, .int xv5), (6, .int xv6), (7, .int xv7), (8, .int xv8)]) C.1.1 C.1.2.1 dX8_isTorn_183 hl (by decide) rfl (fun ls hl => ?_)
  refine lv_aload_n C.1.1 C.1.2.1 dX8_isTorn_185 rfl (lv_at hl 1 rfl) ?_
  refine y_getA C fl_X8_76 hw (ocr SB) rfl (o := 13) rfl dX8_isTorn_186 ?_
  refine lv_aload_n C.1.1 C.1.2.1 dX8_isTorn_189 rfl (lv_at hl 1 rfl) ?_
  refine lv_iload C.1.1 C.1.2.1 dX8_isTorn_190 (lv_at hl 9 rfl) ?_
  refine y_cVIp C (As := [.int xv8]) (rest := [.ref (G.2.2 (1055))]) ml_X8_214 (kX8_t l G SB S xt8 h) (ocr SB) (T := TX8) (N := 60) rfl (by decide) ⟨(Nat.le_of_ble_eq_true rfl), (Nat.le_of_ble_eq_true rfl)⟩ hl.1 rfl rfl (Nat.le_of_ble_eq_true rfl) hw hS dX8_isTorn_192 (fun v2 x_2 H locs t2 h hw hS => ?_)
  obtain ⟨b3, h⟩ := h
  refine y_iald C hw (acr_22 SB) t2 b3 dX8_isTorn_195 (fun v3 t3 => ?_)
  refine y_iconst C dX8_isTorn_196 ⟨by decide, by decide⟩ (fun v4 t4 => ?_)
  refine y_icmp_le C t3 t4 dX8_isTorn_197 (tgt := 218) (by decide) (fun c5 => ?_) (fun c5 => ?_)
  · have h := h.1 c5
    refine y_iconst C dX8_isTorn_218 ⟨by decide, by decide⟩ (fun v6 t6 => ?_)
    exact uX8_isTorn_219 C hw hS xt1 xt2 xt3 xt4 xt5 xt6 xt7 xt8 st0 t6 (lv_sub hl [1, 2, 3, 4, 5, 6, 7, 8, 9, 0] rfl) hP44 hP115 h
  · have h := h.2 c5
    refine lv_aload_n C.1.1 C.1.2.1 dX8_isTorn_200 rfl (lv_at hl 1 rfl) ?_
    refine lv_aload_n C.1.1 C.1.2.1 dX8_isTorn_201 rfl (lv_at hl 1 rfl) ?_
    refine lv_iload C.1.1 C.1.2.1 dX8_isTorn_202 (lv_at hl 7 rfl) ?_
    refine lv_iload C.1.1 C.1.2.1 dX8_isTorn_204 (lv_at hl 9 rfl) ?_
    refine y_iconst C dX8_isTorn_206 ⟨by decide, by decide⟩ (fun v7 t7 => ?_)
    refine y_cVIp C (As := [.int xv6, .int xv8, .int v7]) (rest := [.ref (G.2.2 1042)]) ml_X8_221 (kX8_seenVar l G SB S xt6 xt8 t7 h) (ocr SB) (T := TX8) (N := 60) rfl (by decide) ⟨(Nat.le_of_ble_eq_true rfl), (Nat.le_of_ble_eq_true rfl)⟩ hl.1 rfl rfl (Nat.le_of_ble_eq_true rfl) hw hS dX8_isTorn_207 (fun v8 x_8 H locs t8 h hw hS => ?_)
    refine lv_iload C.1.1 C.1.2.1 dX8_isTorn_210 (lv_at hl 6 rfl) ?_
    refine y_cVIp C (As := [.int v8, .int xv5]) (rest := []) ml_X8_323 (kX8_replaced l G SB S t8 xt5 h) (ocr SB) (T := TX8) (N := 60) rfl (by decide) ⟨(Nat.le_of_ble_eq_true rfl), (Nat.le_of_ble_eq_true rfl)⟩ hl.1 rfl rfl (Nat.le_of_ble_eq_true rfl) hw hS dX8_isTorn_212 (fun v9 x_9 H locs t9 h hw hS => ?_)
    refine lv_goto (tgt := 219) C.1.1 C.1.2.1 dX8_isTorn_215 (by decide) ?_
    exact uX8_isTorn_219 C hw hS xt1 xt2 xt3 xt4 xt5 xt6 xt7 xt8 st0 t9 (lv_sub hl [1, 2, 3, 4, 5, 6, 7, 8, 9, 0] rfl) hP44 hP115 h
set_option maxHeartbeats 4000000 in
set_option maxRecDepth 10000 in
theorem uX8_isTorn_115_b {p : Program} {l : Launch} {e : Env} {s : State} {m : MethodId} {args : Array Value} {below : List Frame} {meth : Method} {c : Code} {G : GG} {SB : St} (C : Cx p s m args meth c G RX8 cX8_isTorn 11 (some .boolean)) {S : St} {H : Heap} {locs : List Loc} {ls : Array Slot} {P44 : Int → Int → St → Prop} {P115 : Int → Int → St → Prop} {k : Int → St → Prop} (hw : Wd G ((injR SB) S) H) (hS : va_S (AG G) s.heap H locs) {xv1 : Int32} {x1 : Int} (xt1 : xv1.toInt = x1) {xv2 : Int32} {x2 : Int} (xt2 : xv2.toInt = x2) {xv3 : Int32} {x3 : Int} (xt3 : xv3.toInt = x3) {xv4 : Int32} {x4 : Int} (xt4 : xv4.toInt = x4) {xv5 : Int32} {x5 : Int} (xt5 : xv5.toInt = x5) {xv6 : Int32} {x6 : Int} (xt6 : xv6.toInt = x6) {xv7 : Int32} {x7 : Int} (xt7 : xv7.toInt = x7) (hl : lv_has ls 11 [(0, .ref (G.2.2 1042)), (1, .int xv1), (2, .int xv2), (3, .int xv3), (4, .int xv4), (5, .int xv5), (6, .int xv6), (7, .int xv7)]) (hP44 : ∀ {H : Heap} {locs : List Loc} {ls : Array Slot} {Sy : St} {yv3 : Int32} {y3 : Int} {yv4 : Int32} {y4 : Int}, yv3.toInt = y3 → yv4.toInt = y4 → Wd G ((injR SB) Sy) H → va_S (AG G) s.heap H locs → lv_has ls 11 [(0, .ref (G.2.2 1042)), (1, .int xv1), (2, .int xv2), (3, .int yv3), (4, .int yv4)] → P44 y3 y4 Sy → W p l e (rmF 2 46) s m args below meth c H locs 0 0 (MQ below (QcI G (injR SB) k) args s 0 0 (AG G)) (F0 m 44 ls [])) (hP115 : ∀ {H : Heap} {locs : List Loc} {ls : Array Slot} {Sy : St} {yv3 : Int32} {y3 : Int} {yv7 : Int32} {y7 : Int}, yv3.toInt = y3 → yv7.toInt = y7 → Wd G ((injR SB) Sy) H → va_S (AG G) s.heap H locs → lv_has ls 11 [(0, .ref (G.2.2 1042)), (1, .int xv1), (2, .int xv2), (3, .int yv3), (4, .int xv4), (5, .int xv5), (6, .int xv6), (7, .int yv7)] → P115 y3 y7 Sy → W p l e (rmF 2 46) s m args below meth c H locs 0 0 (MQ below (QcI G (injR SB) k) args s 0 0 (AG G)) (F0 m 115 ls [])) (h : wX8_isTorn_115_b S x1 x2 x3 x4 x5 x6 x7 P44 P115 k) : W p l e (rmF 2 46) s m args below meth c H locs 0 0 (MQ below (QcI G (injR SB) k) args s 0 0 (AG G)) (F0 m 115 ls []) := by
  refine lv_iload C.1.1 C.1.2.1 dX8_isTorn_115 (lv_at hl 7 rfl) ?_
  refine lv_aload_n C.1.1 C.1.2.1 dX8_isTorn_117 rfl (lv_at hl 0 rfl) ?_
  refine y_getA C fl_X8_97 hw (ocr SB) rfl (o := 20) rfl dX8_isTorn_118 ?_
  refine lv_aload_n C.1.1 C.1.2.1 dX8_isTorn_121 rfl (lv_at hl 0 rfl) ?_
  refine lv_iload C.1.1 C.1.2.1 dX8_isTorn_122 (lv_at hl 6 rfl) ?_
  refine y_cVIp C (As := [.int xv6]) (rest := [.ref (G.2.2 (1062)), .int xv7]) ml_X8_214 (kX8_t l G SB S xt6 h) (ocr SB) (T := TX8) (N := 60) rfl (by decide) ⟨(Nat.le_of_ble_eq_true rfl), (Nat.le_of_ble_eq_true rfl)⟩ hl.1 rfl rfl (Nat.le_of_ble_eq_true rfl) hw hS dX8_isTorn_124 (fun v2 x_2 H locs t2 h hw hS => ?_)
  obtain ⟨b3, h⟩ := h
  refine y_iald C hw (acr_29 SB) t2 b3 dX8_isTorn_127 (fun v3 t3 => ?_)
  refine y_icmp_ge C xt7 t3 dX8_isTorn_128 (tgt := 251) (by decide) (fun c4 => ?_) (fun c4 => ?_)
  · have h := h.1 c4
    obtain ⟨x_5, e5⟩ : ∃ z : Int, z = w32 (x4 + 1) := ⟨_, rfl⟩
    have h := h x_5 e5
    obtain ⟨v5, t5, g5⟩ : ∃ z : Int32, z.toInt = x_5 ∧ xv4 + Int32.ofInt 1 = z := ⟨_, (ti_inc xt4 ⟨by decide, by decide⟩).trans e5.symm, rfl⟩
    refine lv_iinc (v := v5) (lv' := [(4, .int v5), (0, .ref (G.2.2 1042)), (1, .int xv1), (2, .int xv2), (3, .int xv3), (5, .int xv5), (6, .int xv6), (7, .int xv7)]) C.1.1 C.1.2.1 dX8_isTorn_251 hl (k := 4) rfl g5 (by decide) rfl (fun ls hl => ?_)
    refine lv_goto (tgt := 44) C.1.1 C.1.2.1 dX8_isTorn_254 (by decide) ?_
    exact hP44 xt3 t5 hw hS (lv_sub hl [1, 2, 3, 4, 0] rfl) h
  · have h := h.2 c4
    refine lv_aload_n C.1.1 C.1.2.1 dX8_isTorn_131 rfl (lv_at hl 0 rfl) ?_
    refine y_getA C fl_X8_100 hw (ocr SB) rfl (o := 21) rfl dX8_isTorn_132 ?_
    refine y_bipush C dX8_isTorn_135 ⟨by decide, by decide⟩ (fun v7 t7 => ?_)
    refine lv_aload_n C.1.1 C.1.2.1 dX8_isTorn_137 rfl (lv_at hl 0 rfl) ?_
    refine lv_iload C.1.1 C.1.2.1 dX8_isTorn_138 (lv_at hl 6 rfl) ?_
    refine y_cVIp C (As := [.int xv6]) (rest := [.int v7, .ref (G.2.2 (1063))]) ml_X8_214 (kX8_t l G SB S xt6 h) (ocr SB) (T := TX8) (N := 60) rfl (by decide) ⟨(Nat.le_of_ble_eq_true rfl), (Nat.le_of_ble_eq_true rfl)⟩ hl.1 rfl rfl (Nat.le_of_ble_eq_true rfl) hw hS dX8_isTorn_140 (fun v8 x_8 H locs t8 h hw hS => ?_)
    refine y_imul C t7 t8 dX8_isTorn_143 (fun v9 t9 => ?_)
    refine lv_iload C.1.1 C.1.2.1 dX8_isTorn_144 (lv_at hl 7 rfl) ?_
    refine y_iadd C t9 xt7 dX8_isTorn_146 (fun v10 t10 => ?_)
    obtain ⟨b11, h⟩ := h
    refine y_iald C hw (acr_30 SB) t10 b11 dX8_isTorn_147 (fun v11 t11 => ?_)
    obtain ⟨x_12, e12⟩ : ∃ z : Int, z = S 21 (w32 (w32 (24 * x_8) + x7)) := ⟨_, rfl⟩
    have h := h x_12 e12
    have t12 := t11.trans e12.symm
    refine lv_istore (lv' := [(8, .int v11), (0, .ref (G.2.2 1042)), (1, .int xv1), (2, .int xv2), (3, .int xv3), (4, .int xv4), (5, .int xv5), (6, .int xv6), (7, .int xv7)]) C.1.1 C.1.2.1 dX8_isTorn_148 hl (by decide) rfl (fun ls hl => ?_)
    refine lv_aload_n C.1.1 C.1.2.1 dX8_isTorn_150 rfl (lv_at hl 1 rfl) ?_
    refine y_getA C fl_X8_76 hw (ocr SB) rfl (o := 13) rfl dX8_isTorn_151 ?_
    refine lv_aload_n C.1.1 C.1.2.1 dX8_isTorn_154 rfl (lv_at hl 1 rfl) ?_
    refine lv_iload C.1.1 C.1.2.1 dX8_isTorn_155 (lv_at hl 0 rfl) ?_
    refine y_cVIp C (As := [.int v11]) (rest := [.ref (G.2.2 (1055))]) ml_X8_214 (kX8_t l G SB S t12 h) (ocr SB) (T := TX8) (N := 60) rfl (by decide) ⟨(Nat.le_of_ble_eq_true rfl), (Nat.le_of_ble_eq_true rfl)⟩ hl.1 rfl rfl (Nat.le_of_ble_eq_true rfl) hw hS dX8_isTorn_157 (fun v14 x_14 H locs t14 h hw hS => ?_)
    obtain ⟨b15, h⟩ := h
    refine y_iald C hw (acr_22 SB) t14 b15 dX8_isTorn_160 (fun v15 t15 => ?_)
    refine y_if_le C t15 dX8_isTorn_161 (tgt := 182) (by decide) (fun c16 => ?_) (fun c16 => ?_)
    · have h := h.1 c16
      refine y_iconst C dX8_isTorn_182 ⟨by decide, by decide⟩ (fun v17 t17 => ?_)
      exact uX8_isTorn_183 C hw hS xt1 xt2 xt3 xt4 xt5 xt6 xt7 t12 t17 (lv_sub hl [1, 2, 3, 4, 5, 6, 7, 8, 0] rfl) hP44 hP115 h
    · have h := h.2 c16
      refine lv_aload_n C.1.1 C.1.2.1 dX8_isTorn_164 rfl (lv_at hl 1 rfl) ?_
      refine lv_aload_n C.1.1 C.1.2.1 dX8_isTorn_165 rfl (lv_at hl 1 rfl) ?_
      refine lv_iload C.1.1 C.1.2.1 dX8_isTorn_166 (lv_at hl 7 rfl) ?_
      refine lv_iload C.1.1 C.1.2.1 dX8_isTorn_168 (lv_at hl 0 rfl) ?_
      refine y_iconst C dX8_isTorn_170 ⟨by decide, by decide⟩ (fun v18 t18 => ?_)
      refine y_cVIp C (As := [.int xv6, .int v11, .int v18]) (rest := [.ref (G.2.2 1042)]) ml_X8_221 (kX8_seenVar l G SB S xt6 t12 t18 h) (ocr SB) (T := TX8) (N := 60) rfl (by decide) ⟨(Nat.le_of_ble_eq_true rfl), (Nat.le_of_ble_eq_true rfl)⟩ hl.1 rfl rfl (Nat.le_of_ble_eq_true rfl) hw hS dX8_isTorn_171 (fun v19 x_19 H locs t19 h hw hS => ?_)
      refine lv_iload C.1.1 C.1.2.1 dX8_isTorn_174 (lv_at hl 6 rfl) ?_
      refine y_cVIp C (As := [.int v19, .int xv5]) (rest := []) ml_X8_323 (kX8_replaced l G SB S t19 xt5 h) (ocr SB) (T := TX8) (N := 60) rfl (by decide) ⟨(Nat.le_of_ble_eq_true rfl), (Nat.le_of_ble_eq_true rfl)⟩ hl.1 rfl rfl (Nat.le_of_ble_eq_true rfl) hw hS dX8_isTorn_176 (fun v20 x_20 H locs t20 h hw hS => ?_)
      refine lv_goto (tgt := 183) C.1.1 C.1.2.1 dX8_isTorn_179 (by decide) ?_
      exact uX8_isTorn_183 C hw hS xt1 xt2 xt3 xt4 xt5 xt6 xt7 t12 t20 (lv_sub hl [1, 2, 3, 4, 5, 6, 7, 8, 0] rfl) hP44 hP115 h
set_option maxHeartbeats 4000000 in
set_option maxRecDepth 10000 in
theorem uX8_isTorn_115 {p : Program} {l : Launch} {e : Env} {s : State} {m : MethodId} {args : Array Value} {below : List Frame} {meth : Method} {c : Code} {G : GG} {SB : St} (C : Cx p s m args meth c G RX8 cX8_isTorn 11 (some .boolean)) {S : St} {H : Heap} {locs : List Loc} {ls : Array Slot} {P44 : Int → Int → St → Prop} {k : Int → St → Prop} (hw : Wd G ((injR SB) S) H) (hS : va_S (AG G) s.heap H locs) {xv1 : Int32} {x1 : Int} (xt1 : xv1.toInt = x1) {xv2 : Int32} {x2 : Int} (xt2 : xv2.toInt = x2) {xv3 : Int32} {x3 : Int} (xt3 : xv3.toInt = x3) {xv4 : Int32} {x4 : Int} (xt4 : xv4.toInt = x4) {xv5 : Int32} {x5 : Int} (xt5 : xv5.toInt = x5) {xv6 : Int32} {x6 : Int} (xt6 : xv6.toInt = x6) {xv7 : Int32} {x7 : Int} (xt7 : xv7.toInt = x7) (hl : lv_has ls 11 [(0, .ref (G.2.2 1042)), (1, .int xv1), (2, .int xv2), (3, .int xv3), (4, .int xv4), (5, .int xv5), (6, .int xv6), (7, .int xv7)]) (hP44 : ∀ {H : Heap} {locs : List Loc} {ls : Array Slot} {Sy : St} {yv3 : Int32} {y3 : Int} {yv4 : Int32} {y4 : Int}, yv3.toInt = y3 → yv4.toInt = y4 → Wd G ((injR SB) Sy) H → va_S (AG G) s.heap H locs → lv_has ls 11 [(0, .ref (G.2.2 1042)), (1, .int xv1), (2, .int xv2), (3, .int yv3), (4, .int yv4)] → P44 y3 y4 Sy → W p l e (rmF 2 46) s m args below meth c H locs 0 0 (MQ below (QcI G (injR SB) k) args s 0 0 (AG G)) (F0 m 44 ls [])) (h : wX8_isTorn_115 S x1 x2 x3 x4 x5 x6 x7 P44 k) : W p l e (rmF 2 46) s m args below meth c H locs 0 0 (MQ below (QcI G (injR SB) k) args s 0 0 (AG G)) (F0 m 115 ls []) := by
  have key : ∀ (n : Nat) {H : Heap} {locs : List Loc} {ls : Array Slot} {S : St} {xv3 : Int32} {x3 : Int} {xv7 : Int32} {x7 : Int}, xv3.toInt = x3 → xv7.toInt = x7 → Wd G ((injR SB) S) H → va_S (AG G) s.heap H locs → lv_has ls 11 [(0, .ref (G.2.2 1042)), (1, .int xv1), (2, .int xv2), (3, .int xv3), (4, .int xv4), (5, .int xv5), (6, .int xv6), (7, .int xv7)] → itP (fun (P : Int × Int × St → Prop) (a : Int × Int × St) => wX8_isTorn_115_b a.2.2 x1 x2 a.1 x4 x5 x6 a.2.1 P44 (fun b0 b1 b2 => P (b0, b1, b2)) k) n (x3, x7, S) → W p l e (rmF 2 46) s m args below meth c H locs 0 0 (MQ below (QcI G (injR SB) k) args s 0 0 (AG G)) (F0 m 115 ls []) := by
    intro n
    induction n with
    | zero => intro H locs ls S xv3 x3 xv7 x7 xt3 xt7 hw hS hl h; exact h.elim
    | succ n ih =>
      intro H locs ls S xv3 x3 xv7 x7 xt3 xt7 hw hS hl h
      exact uX8_isTorn_115_b C hw hS xt1 xt2 xt3 xt4 xt5 xt6 xt7 hl hP44 (P115 := fun b0 b1 b2 => itP _ n (b0, b1, b2)) (fun q0 q1 hw hS hl h => ih q0 q1 hw hS hl h) h
  obtain ⟨n, hn⟩ := h
  exact key n xt3 xt7 hw hS hl hn
set_option maxHeartbeats 4000000 in
set_option maxRecDepth 10000 in
theorem uX8_isTorn_106 {p : Program} {l : Launch} {e : Env} {s : State} {m : MethodId} {args : Array Value} {below : List Frame} {meth : Method} {c : Code} {G : GG} {SB : St} (C : Cx p s m args meth c G RX8 cX8_isTorn 11 (some .boolean)) {S : St} {H : Heap} {locs : List Loc} {ls : Array Slot} {P44 : Int → Int → St → Prop} {k : Int → St → Prop} (hw : Wd G ((injR SB) S) H) (hS : va_S (AG G) s.heap H locs) {xv1 : Int32} {x1 : Int} (xt1 : xv1.toInt = x1) {xv2 : Int32} {x2 : Int} (xt2 : xv2.toInt = x2) {xv4 : Int32} {x4 : Int} (xt4 : xv4.toInt = x4) {xv5 : Int32} {x5 : Int} (xt5 : xv5.toInt = x5) {xv6 : Int32} {x6 : Int} (xt6 : xv6.toInt = x6) (hl : lv_has ls 11 [(0, .ref (G.2.2 1042)), (1, .int xv1), (2, .int xv2), (4, .int xv4), (5, .int xv5), (6, .int xv6)]) (hP44 : ∀ {H : Heap} {locs : List Loc} {ls : Array Slot} {Sy : St} {yv3 : Int32} {y3 : Int} {yv4 : Int32} {y4 : Int}, yv3.toInt = y3 → yv4.toInt = y4 → Wd G ((injR SB) Sy) H → va_S (AG G) s.heap H locs → lv_has ls 11 [(0, .ref (G.2.2 1042)), (1, .int xv1), (2, .int xv2), (3, .int yv3), (4, .int yv4)] → P44 y3 y4 Sy → W p l e (rmF 2 46) s m args below meth c H locs 0 0 (MQ below (QcI G (injR SB) k) args s 0 0 (AG G)) (F0 m 44 ls [])) (h : wX8_isTorn_106 S x1 x2 x4 x5 x6 P44 k) : W p l e (rmF 2 46) s m args below meth c H locs 0 0 (MQ below (QcI G (injR SB) k) args s 0 0 (AG G)) (F0 m 106 ls []) := by
  refine y_iconst C dX8_isTorn_106 ⟨by decide, by decide⟩ (fun v1 t1 => ?_)
  refine lv_goto (tgt := 111) C.1.1 C.1.2.1 dX8_isTorn_107 (by decide) ?_
  refine lv_istore_n (lv' := [(3, .int v1), (0, .ref (G.2.2 1042)), (1, .int xv1), (2, .int xv2), (4, .int xv4), (5, .int xv5), (6, .int xv6)]) C.1.1 C.1.2.1 dX8_isTorn_111 rfl hl (by decide) rfl (fun ls hl => ?_)
  refine y_iconst C dX8_isTorn_112 ⟨by decide, by decide⟩ (fun v2 t2 => ?_)
  refine lv_istore (lv' := [(7, .int v2), (3, .int v1), (0, .ref (G.2.2 1042)), (1, .int xv1), (2, .int xv2), (4, .int xv4), (5, .int xv5), (6, .int xv6)]) C.1.1 C.1.2.1 dX8_isTorn_113 hl (by decide) rfl (fun ls hl => ?_)
  exact uX8_isTorn_115 C hw hS xt1 xt2 t1 xt4 xt5 xt6 t2 (lv_sub hl [2, 3, 4, 1, 5, 6, 7, 0] rfl) hP44 h
set_option maxHeartbeats 4000000 in
set_option maxRecDepth 10000 in
theorem uX8_isTorn_44_b {p : Program} {l : Launch} {e : Env} {s : State} {m : MethodId} {args : Array Value} {below : List Frame} {meth : Method} {c : Code} {G : GG} {SB : St} (C : Cx p s m args meth c G RX8 cX8_isTorn 11 (some .boolean)) {S : St} {H : Heap} {locs : List Loc} {ls : Array Slot}  {P44 : Int → Int → St → Prop} {k : Int → St → Prop} (hw : Wd G ((injR SB) S) H) (hS : va_S (AG G) s.heap H locs) {xv1 : Int32} {x1 : Int} (xt1 : xv1.toInt = x1) {xv2 : Int32} {x2 : Int} (xt2 : xv2.toInt = x2) {xv3 : Int32} {x3 : Int} (xt3 : xv3.toInt = x3) {xv4 : Int32} {x4 : Int} (xt4 : xv4.toInt = x4) (hl : lv_has ls 11 [(0, .ref (G.2.2 1042)), (1, .int xv1), (2, .int xv2), (3, .int xv3), (4, .int xv4)])  (hP44 : ∀ {H : Heap} {locs : List Loc} {ls : Array Slot} {Sy : St} {yv3 : Int32} {y3 : Int} {yv4 : Int32} {y4 : Int}, yv3.toInt = y3 → yv4.toInt = y4 → Wd G ((injR SB) Sy) H → va_S (AG G) s.heap H locs → lv_has ls 11 [(0, .ref (G.2.2 1042)), (1, .int xv1), (2, .int xv2), (3, .int yv3), (4, .int yv4)] → P44 y3 y4 Sy → W p l e (rmF 2 46) s m args below meth c H locs 0 0 (MQ below (QcI G (injR SB) k) args s 0 0 (AG G)) (F0 m 44 ls [])) (h : wX8_isTorn_44_b S x1 x2 x3 x4 P44 k) : W p l e (rmF 2 46) s m args below meth c H locs 0 0 (MQ below (QcI G (injR SB) k) args s 0 0 (AG G)) (F0 m 44 ls []) := by
  refine lv_iload C.1.1 C.1.2.1 dX8_isTorn_44 (lv_at hl 4 rfl) ?_
  refine lv_aload_n C.1.1 C.1.2.1 dX8_isTorn_46 rfl (lv_at hl 0 rfl) ?_
  refine y_getA C fl_X8_85 hw (ocr SB) rfl (o := 16) rfl dX8_isTorn_47 ?_
  refine lv_iload_n C.1.1 C.1.2.1 dX8_isTorn_50 rfl (lv_at hl 2 rfl) ?_
  obtain ⟨b2, h⟩ := h
  refine y_iald C hw (acr_25 SB) xt2 b2 dX8_isTorn_51 (fun v2 t2 => ?_)
  refine y_icmp_ge C xt4 t2 dX8_isTorn_52 (tgt := 257) (by decide) (fun c3 => ?_) (fun c3 => ?_)
  · have h := h.1 c3
    refine lv_iload_n C.1.1 C.1.2.1 dX8_isTorn_257 rfl (lv_at hl 3 rfl) ?_
    obtain ⟨z, h⟩ := h
    exact y_zret C hw hS xt3 z h dX8_isTorn_258
  · have h := h.2 c3
    refine y_iconst C dX8_isTorn_55 ⟨by decide, by decide⟩ (fun v4 t4 => ?_)
    refine lv_iload_n C.1.1 C.1.2.1 dX8_isTorn_56 rfl (lv_at hl 2 rfl) ?_
    refine y_imul C t4 xt2 dX8_isTorn_57 (fun v5 t5 => ?_)
    refine lv_iload C.1.1 C.1.2.1 dX8_isTorn_58 (lv_at hl 4 rfl) ?_
    refine y_iadd C t5 xt4 dX8_isTorn_60 (fun v6 t6 => ?_)
    obtain ⟨x_7, e7⟩ : ∃ z : Int, z = w32 (w32 (5 * x2) + x4) := ⟨_, rfl⟩
    have h := h x_7 e7
    have t7 := t6.trans e7.symm
    refine lv_istore (lv' := [(5, .int v6), (0, .ref (G.2.2 1042)), (1, .int xv1), (2, .int xv2), (3, .int xv3), (4, .int xv4)]) C.1.1 C.1.2.1 dX8_isTorn_61 hl (by decide) rfl (fun ls hl => ?_)
    refine lv_aload_n C.1.1 C.1.2.1 dX8_isTorn_63 rfl (lv_at hl 1 rfl) ?_
    refine y_getA C fl_X8_88 hw (ocr SB) rfl (o := 17) rfl dX8_isTorn_64 ?_
    refine lv_iload C.1.1 C.1.2.1 dX8_isTorn_67 (lv_at hl 0 rfl) ?_
    obtain ⟨b9, h⟩ := h
    refine y_iald C hw (acr_26 SB) t7 b9 dX8_isTorn_69 (fun v9 t9 => ?_)
    obtain ⟨x_10, e10⟩ : ∃ z : Int, z = S 17 x_7 := ⟨_, rfl⟩
    have h := h x_10 e10
    have t10 := t9.trans e10.symm
    refine lv_istore (lv' := [(6, .int v9), (5, .int v6), (0, .ref (G.2.2 1042)), (1, .int xv1), (2, .int xv2), (3, .int xv3), (4, .int xv4)]) C.1.1 C.1.2.1 dX8_isTorn_70 hl (by decide) rfl (fun ls hl => ?_)
    refine lv_aload_n C.1.1 C.1.2.1 dX8_isTorn_72 rfl (lv_at hl 2 rfl) ?_
    refine lv_iload_n C.1.1 C.1.2.1 dX8_isTorn_73 rfl (lv_at hl 3 rfl) ?_
    refine lv_iload C.1.1 C.1.2.1 dX8_isTorn_74 (lv_at hl 0 rfl) ?_
    refine lv_aload_n C.1.1 C.1.2.1 dX8_isTorn_76 rfl (lv_at hl 2 rfl) ?_
    refine y_getA C fl_X8_91 hw (ocr SB) rfl (o := 18) rfl dX8_isTorn_77 ?_
    refine y_iconst C dX8_isTorn_80 ⟨by decide, by decide⟩ (fun v12 t12 => ?_)
    refine lv_iload C.1.1 C.1.2.1 dX8_isTorn_81 (lv_at hl 1 rfl) ?_
    refine y_imul C t12 t7 dX8_isTorn_83 (fun v13 t13 => ?_)
    obtain ⟨b14, h⟩ := h
    refine y_iald C hw (acr_27 SB) t13 b14 dX8_isTorn_84 (fun v14 t14 => ?_)
    refine lv_aload_n C.1.1 C.1.2.1 dX8_isTorn_85 rfl (lv_at hl 2 rfl) ?_
    refine y_getA C fl_X8_91 hw (ocr SB) rfl (o := 18) rfl dX8_isTorn_86 ?_
    refine y_iconst C dX8_isTorn_89 ⟨by decide, by decide⟩ (fun v16 t16 => ?_)
    refine lv_iload C.1.1 C.1.2.1 dX8_isTorn_90 (lv_at hl 1 rfl) ?_
    refine y_imul C t16 t7 dX8_isTorn_92 (fun v17 t17 => ?_)
    refine y_iconst C dX8_isTorn_93 ⟨by decide, by decide⟩ (fun v18 t18 => ?_)
    refine y_iadd C t17 t18 dX8_isTorn_94 (fun v19 t19 => ?_)
    obtain ⟨b20, h⟩ := h
    refine y_iald C hw (acr_27 SB) t19 b20 dX8_isTorn_95 (fun v20 t20 => ?_)
    refine y_cVI C (As := [.int xv1, .int v9, .int v14, .int v20]) (rest := []) ml_X8_319 (kX8_puts l G SB S xt1 t10 t14 t20 h) (ocr SB) (T := TX8) (N := 60) rfl (by decide) ⟨(Nat.le_of_ble_eq_true rfl), (Nat.le_of_ble_eq_true rfl)⟩ hl.1 rfl rfl (Nat.le_of_ble_eq_true rfl) hw hS dX8_isTorn_96 (fun v21 x_21 S_21 H locs t21 h hw hS => ?_)
    refine y_if_ne C t21 dX8_isTorn_99 (tgt := 106) (by decide) (fun c22 => ?_) (fun c22 => ?_)
    · have h := h.1 c22
      exact uX8_isTorn_106 C hw hS xt1 xt2 xt4 t7 t10 (lv_sub hl [2, 3, 4, 6, 1, 0] rfl) hP44 h
    · have h := h.2 c22
      refine lv_iload_n C.1.1 C.1.2.1 dX8_isTorn_102 rfl (lv_at hl 5 rfl) ?_
      refine y_if_eq C xt3 dX8_isTorn_103 (tgt := 110) (by decide) (fun c23 => ?_) (fun c23 => ?_)
      · have h := h.1 c23
        refine y_iconst C dX8_isTorn_110 ⟨by decide, by decide⟩ (fun v24 t24 => ?_)
        refine lv_istore_n (lv' := [(3, .int v24), (6, .int v9), (5, .int v6), (0, .ref (G.2.2 1042)), (1, .int xv1), (2, .int xv2), (4, .int xv4)]) C.1.1 C.1.2.1 dX8_isTorn_111 rfl hl (by decide) rfl (fun ls hl => ?_)
        refine y_iconst C dX8_isTorn_112 ⟨by decide, by decide⟩ (fun v25 t25 => ?_)
        refine lv_istore (lv' := [(7, .int v25), (3, .int v24), (6, .int v9), (5, .int v6), (0, .ref (G.2.2 1042)), (1, .int xv1), (2, .int xv2), (4, .int xv4)]) C.1.1 C.1.2.1 dX8_isTorn_113 hl (by decide) rfl (fun ls hl => ?_)
        exact uX8_isTorn_115 C hw hS xt1 xt2 t24 xt4 t7 t10 t25 (lv_sub hl [4, 5, 6, 1, 7, 3, 2, 0] rfl) hP44 h
      · have h := h.2 c23
        exact uX8_isTorn_106 C hw hS xt1 xt2 xt4 t7 t10 (lv_sub hl [2, 3, 4, 6, 1, 0] rfl) hP44 h
set_option maxHeartbeats 4000000 in
set_option maxRecDepth 10000 in
theorem uX8_isTorn_44 {p : Program} {l : Launch} {e : Env} {s : State} {m : MethodId} {args : Array Value} {below : List Frame} {meth : Method} {c : Code} {G : GG} {SB : St} (C : Cx p s m args meth c G RX8 cX8_isTorn 11 (some .boolean)) {S : St} {H : Heap} {locs : List Loc} {ls : Array Slot}  {k : Int → St → Prop} (hw : Wd G ((injR SB) S) H) (hS : va_S (AG G) s.heap H locs) {xv1 : Int32} {x1 : Int} (xt1 : xv1.toInt = x1) {xv2 : Int32} {x2 : Int} (xt2 : xv2.toInt = x2) {xv3 : Int32} {x3 : Int} (xt3 : xv3.toInt = x3) {xv4 : Int32} {x4 : Int} (xt4 : xv4.toInt = x4) (hl : lv_has ls 11 [(0, .ref (G.2.2 1042)), (1, .int xv1), (2, .int xv2), (3, .int xv3), (4, .int xv4)])  (h : wX8_isTorn_44 S x1 x2 x3 x4 k) : W p l e (rmF 2 46) s m args below meth c H locs 0 0 (MQ below (QcI G (injR SB) k) args s 0 0 (AG G)) (F0 m 44 ls []) := by
  have key : ∀ (n : Nat) {H : Heap} {locs : List Loc} {ls : Array Slot} {S : St} {xv3 : Int32} {x3 : Int} {xv4 : Int32} {x4 : Int}, xv3.toInt = x3 → xv4.toInt = x4 → Wd G ((injR SB) S) H → va_S (AG G) s.heap H locs → lv_has ls 11 [(0, .ref (G.2.2 1042)), (1, .int xv1), (2, .int xv2), (3, .int xv3), (4, .int xv4)] → itP (fun (P : Int × Int × St → Prop) (a : Int × Int × St) => wX8_isTorn_44_b a.2.2 x1 x2 a.1 a.2.1 (fun b0 b1 b2 => P (b0, b1, b2)) k) n (x3, x4, S) → W p l e (rmF 2 46) s m args below meth c H locs 0 0 (MQ below (QcI G (injR SB) k) args s 0 0 (AG G)) (F0 m 44 ls []) := by
    intro n
    induction n with
    | zero => intro H locs ls S xv3 x3 xv4 x4 xt3 xt4 hw hS hl h; exact h.elim
    | succ n ih =>
      intro H locs ls S xv3 x3 xv4 x4 xt3 xt4 hw hS hl h
      exact uX8_isTorn_44_b C hw hS xt1 xt2 xt3 xt4 hl  (P44 := fun b0 b1 b2 => itP _ n (b0, b1, b2)) (fun q0 q1 hw hS hl h => ih q0 q1 hw hS hl h) h
  obtain ⟨n, hn⟩ := h
  exact key n xt3 xt4 hw hS hl hn
set_option maxHeartbeats 4000000 in
set_option maxRecDepth 10000 in
theorem uX8_isTorn_15_b {p : Program} {l : Launch} {e : Env} {s : State} {m : MethodId} {args : Array Value} {below : List Frame} {meth : Method} {c : Code} {G : GG} {SB : St} (C : Cx p s m args meth c G RX8 cX8_isTorn 11 (some .boolean)) {S : St} {H : Heap} {locs : List Loc} {ls : Array Slot}  {P15 : Int → St → Prop} {k : Int → St → Prop} (hw : Wd G ((injR SB) S) H) (hS : va_S (AG G) s.heap H locs) {xv1 : Int32} {x1 : Int} (xt1 : xv1.toInt = x1) {xv2 : Int32} {x2 : Int} (xt2 : xv2.toInt = x2) {xv3 : Int32} {x3 : Int} (xt3 : xv3.toInt = x3) (hl : lv_has ls 11 [(0, .ref (G.2.2 1042)), (1, .int xv1), (2, .int xv2), (3, .int xv3)])  (hP15 : ∀ {H : Heap} {locs : List Loc} {ls : Array Slot} {Sy : St} {yv3 : Int32} {y3 : Int}, yv3.toInt = y3 → Wd G ((injR SB) Sy) H → va_S (AG G) s.heap H locs → lv_has ls 11 [(0, .ref (G.2.2 1042)), (1, .int xv1), (2, .int xv2), (3, .int yv3)] → P15 y3 Sy → W p l e (rmF 2 46) s m args below meth c H locs 0 0 (MQ below (QcI G (injR SB) k) args s 0 0 (AG G)) (F0 m 15 ls [])) (h : wX8_isTorn_15_b S x1 x2 x3 P15 k) : W p l e (rmF 2 46) s m args below meth c H locs 0 0 (MQ below (QcI G (injR SB) k) args s 0 0 (AG G)) (F0 m 15 ls []) := by
  refine lv_iload_n C.1.1 C.1.2.1 dX8_isTorn_15 rfl (lv_at hl 3 rfl) ?_
  refine y_bipush C dX8_isTorn_16 ⟨by decide, by decide⟩ (fun v1 t1 => ?_)
  refine y_icmp_ge C xt3 t1 dX8_isTorn_18 (tgt := 39) (by decide) (fun c2 => ?_) (fun c2 => ?_)
  · have h := h.1 c2
    refine y_iconst C dX8_isTorn_39 ⟨by decide, by decide⟩ (fun v3 t3 => ?_)
    refine lv_istore_n (lv' := [(3, .int v3), (0, .ref (G.2.2 1042)), (1, .int xv1), (2, .int xv2)]) C.1.1 C.1.2.1 dX8_isTorn_40 rfl hl (by decide) rfl (fun ls hl => ?_)
    refine y_iconst C dX8_isTorn_41 ⟨by decide, by decide⟩ (fun v4 t4 => ?_)
    refine lv_istore (lv' := [(4, .int v4), (3, .int v3), (0, .ref (G.2.2 1042)), (1, .int xv1), (2, .int xv2)]) C.1.1 C.1.2.1 dX8_isTorn_42 hl (by decide) rfl (fun ls hl => ?_)
    exact uX8_isTorn_44 C hw hS xt1 xt2 t3 t4 (lv_sub hl [2, 3, 4, 1, 0] rfl)  h
  · have h := h.2 c2
    refine lv_aload_n C.1.1 C.1.2.1 dX8_isTorn_21 rfl (lv_at hl 0 rfl) ?_
    refine y_getA C fl_X8_103 hw (ocr SB) rfl (o := 22) rfl dX8_isTorn_22 ?_
    refine y_bipush C dX8_isTorn_25 ⟨by decide, by decide⟩ (fun v6 t6 => ?_)
    refine lv_iload_n C.1.1 C.1.2.1 dX8_isTorn_27 rfl (lv_at hl 2 rfl) ?_
    refine y_imul C t6 xt2 dX8_isTorn_28 (fun v7 t7 => ?_)
    refine lv_iload_n C.1.1 C.1.2.1 dX8_isTorn_29 rfl (lv_at hl 3 rfl) ?_
    refine y_iadd C t7 xt3 dX8_isTorn_30 (fun v8 t8 => ?_)
    refine y_iconst C dX8_isTorn_31 ⟨by decide, by decide⟩ (fun v9 t9 => ?_)
    obtain ⟨b10, h⟩ := h
    obtain ⟨S_10, e10⟩ : ∃ z : St, z = up S 22 (w32 (w32 (24 * x2) + x3)) 0 := ⟨_, rfl⟩
    have h := h S_10 e10
    refine y_zast C hw hS (acr_31 SB) t8 t9 (Or.inl rfl) b10 dX8_isTorn_32 (fun H locs hw hS => ?_)
    have hw : Wd G ((injR SB) S_10) H := by rw [e10]; exact hw
    obtain ⟨x_11, e11⟩ : ∃ z : Int, z = w32 (x3 + 1) := ⟨_, rfl⟩
    have h := h x_11 e11
    obtain ⟨v11, t11, g11⟩ : ∃ z : Int32, z.toInt = x_11 ∧ xv3 + Int32.ofInt 1 = z := ⟨_, (ti_inc xt3 ⟨by decide, by decide⟩).trans e11.symm, rfl⟩
    refine lv_iinc (v := v11) (lv' := [(3, .int v11), (0, .ref (G.2.2 1042)), (1, .int xv1), (2, .int xv2)]) C.1.1 C.1.2.1 dX8_isTorn_33 hl (k := 3) rfl g11 (by decide) rfl (fun ls hl => ?_)
    refine lv_goto (tgt := 15) C.1.1 C.1.2.1 dX8_isTorn_36 (by decide) ?_
    exact hP15 t11 hw hS (lv_sub hl [1, 2, 3, 0] rfl) h
set_option maxHeartbeats 4000000 in
set_option maxRecDepth 10000 in
theorem uX8_isTorn_15 {p : Program} {l : Launch} {e : Env} {s : State} {m : MethodId} {args : Array Value} {below : List Frame} {meth : Method} {c : Code} {G : GG} {SB : St} (C : Cx p s m args meth c G RX8 cX8_isTorn 11 (some .boolean)) {S : St} {H : Heap} {locs : List Loc} {ls : Array Slot}  {k : Int → St → Prop} (hw : Wd G ((injR SB) S) H) (hS : va_S (AG G) s.heap H locs) {xv1 : Int32} {x1 : Int} (xt1 : xv1.toInt = x1) {xv2 : Int32} {x2 : Int} (xt2 : xv2.toInt = x2) {xv3 : Int32} {x3 : Int} (xt3 : xv3.toInt = x3) (hl : lv_has ls 11 [(0, .ref (G.2.2 1042)), (1, .int xv1), (2, .int xv2), (3, .int xv3)])  (h : wX8_isTorn_15 S x1 x2 x3 k) : W p l e (rmF 2 46) s m args below meth c H locs 0 0 (MQ below (QcI G (injR SB) k) args s 0 0 (AG G)) (F0 m 15 ls []) := by
  have key : ∀ (n : Nat) {H : Heap} {locs : List Loc} {ls : Array Slot} {S : St} {xv3 : Int32} {x3 : Int}, xv3.toInt = x3 → Wd G ((injR SB) S) H → va_S (AG G) s.heap H locs → lv_has ls 11 [(0, .ref (G.2.2 1042)), (1, .int xv1), (2, .int xv2), (3, .int xv3)] → itP (fun (P : Int × St → Prop) (a : Int × St) => wX8_isTorn_15_b a.2 x1 x2 a.1 (fun b0 b1 => P (b0, b1)) k) n (x3, S) → W p l e (rmF 2 46) s m args below meth c H locs 0 0 (MQ below (QcI G (injR SB) k) args s 0 0 (AG G)) (F0 m 15 ls []) := by
    intro n
    induction n with
    | zero => intro H locs ls S xv3 x3 xt3 hw hS hl h; exact h.elim
    | succ n ih =>
      intro H locs ls S xv3 x3 xt3 hw hS hl h
      exact uX8_isTorn_15_b C hw hS xt1 xt2 xt3 hl  (P15 := fun b0 b1 => itP _ n (b0, b1)) (fun q0 hw hS hl h => ih q0 hw hS hl h) h
  obtain ⟨n, hn⟩ := h
  exact key n xt3 hw hS hl hn
set_option maxHeartbeats 4000000 in
set_option maxRecDepth 10000 in
theorem uX8_isTorn_0 {p : Program} {l : Launch} {e : Env} {s : State} {m : MethodId} {args : Array Value} {below : List Frame} {meth : Method} {c : Code} {G : GG} {SB : St} (C : Cx p s m args meth c G RX8 cX8_isTorn 11 (some .boolean)) {S : St} {H : Heap} {locs : List Loc} {ls : Array Slot}  {k : Int → St → Prop} (hw : Wd G ((injR SB) S) H) (hS : va_S (AG G) s.heap H locs) {xv1 : Int32} {x1 : Int} (xt1 : xv1.toInt = x1) (hl : lv_has ls 11 [(0, .ref (G.2.2 1042)), (1, .int xv1)])  (h : wX8_isTorn_0 S x1 k) : W p l e (rmF 2 46) s m args below meth c H locs 0 0 (MQ below (QcI G (injR SB) k) args s 0 0 (AG G)) (F0 m 0 ls []) := by
  refine lv_aload_n C.1.1 C.1.2.1 dX8_isTorn_0 rfl (lv_at hl 0 rfl) ?_
  refine lv_iload_n C.1.1 C.1.2.1 dX8_isTorn_1 rfl (lv_at hl 1 rfl) ?_
  refine y_cVIp C (As := [.int xv1]) (rest := []) ml_X8_214 (kX8_t l G SB S xt1 h) (ocr SB) (T := TX8) (N := 60) rfl (by decide) ⟨(Nat.le_of_ble_eq_true rfl), (Nat.le_of_ble_eq_true rfl)⟩ hl.1 rfl rfl (Nat.le_of_ble_eq_true rfl) hw hS dX8_isTorn_2 (fun v1 x_1 H locs t1 h hw hS => ?_)
  refine lv_istore_n (lv' := [(2, .int v1), (0, .ref (G.2.2 1042)), (1, .int xv1)]) C.1.1 C.1.2.1 dX8_isTorn_5 rfl hl (by decide) rfl (fun ls hl => ?_)
  refine lv_aload_n C.1.1 C.1.2.1 dX8_isTorn_6 rfl (lv_at hl 1 rfl) ?_
  refine y_getA C fl_X8_97 hw (ocr SB) rfl (o := 20) rfl dX8_isTorn_7 ?_
  refine lv_iload_n C.1.1 C.1.2.1 dX8_isTorn_10 rfl (lv_at hl 0 rfl) ?_
  refine y_iconst C dX8_isTorn_11 ⟨by decide, by decide⟩ (fun v3 t3 => ?_)
  obtain ⟨b4, h⟩ := h
  obtain ⟨S_4, e4⟩ : ∃ z : St, z = up S 20 x_1 0 := ⟨_, rfl⟩
  have h := h S_4 e4
  refine y_iast C hw hS (acr_29 SB) t1 t3 b4 dX8_isTorn_12 (fun H locs hw hS => ?_)
  have hw : Wd G ((injR SB) S_4) H := by rw [e4]; exact hw
  refine y_iconst C dX8_isTorn_13 ⟨by decide, by decide⟩ (fun v5 t5 => ?_)
  refine lv_istore_n (lv' := [(3, .int v5), (2, .int v1), (0, .ref (G.2.2 1042)), (1, .int xv1)]) C.1.1 C.1.2.1 dX8_isTorn_14 rfl hl (by decide) rfl (fun ls hl => ?_)
  exact uX8_isTorn_15 C hw hS xt1 t1 t5 (lv_sub hl [2, 3, 1, 0] rfl)  h
theorem kX8_isTorn (l : Launch) (G : GG) (SB S : St) {xv1 : Int32} {x1 : Int} (xt1 : xv1.toInt = x1) {k : Int → St → Prop} (h : wX8_isTorn S x1 k) : CnI l yX8_isTorn cX8_isTorn 11 (some .boolean) 2 46 G (injR SB) [.ref (G.2.2 1042), .int xv1] S k :=
  cn_body (by decide +kernel) (Nat.le_of_ble_eq_true rfl) (fun p e s m args below meth c ls C hw hl => uX8_isTorn_0 C hw va_S.rf xt1 (lv_sub hl [0, 1] rfl) h)
set_option maxHeartbeats 4000000 in
set_option maxRecDepth 10000 in
theorem uX8_isTwice_64 {p : Program} {l : Launch} {e : Env} {s : State} {m : MethodId} {args : Array Value} {below : List Frame} {meth : Method} {c : Code} {G : GG} {SB : St} (C : Cx p s m args meth c G RX8 cX8_isTwice 7 (some .boolean)) {S : St} {H : Heap} {locs : List Loc} {ls : Array Slot} {P30 : Int → Int → Prop} {P42 : Int → Int → Prop} {k : Int → Prop} (hw : Wd G ((injR SB) S) H) (hS : va_S (AG G) s.heap H locs) {xv3 : Int32} {x3 : Int} (xt3 : xv3.toInt = x3) {xv5 : Int32} {x5 : Int} (xt5 : xv5.toInt = x5) {xv6 : Int32} {x6 : Int} (xt6 : xv6.toInt = x6) (hl : lv_has ls 7 [(0, .ref (G.2.2 1042)), (3, .int xv3), (5, .int xv5), (6, .int xv6)]) (hP30 : ∀ {H : Heap} {locs : List Loc} {ls : Array Slot} {yv4 : Int32} {y4 : Int} {yv5 : Int32} {y5 : Int}, yv4.toInt = y4 → yv5.toInt = y5 → Wd G ((injR SB) S) H → va_S (AG G) s.heap H locs → lv_has ls 7 [(0, .ref (G.2.2 1042)), (3, .int xv3), (4, .int yv4), (5, .int yv5)] → P30 y4 y5 → W p l e (rmF 4 89) s m args below meth c H locs 0 0 (MQ below (QcI G (injR SB) (fun r u => k r ∧ u = S)) args s 0 0 (AG G)) (F0 m 30 ls [])) (hP42 : ∀ {H : Heap} {locs : List Loc} {ls : Array Slot} {yv4 : Int32} {y4 : Int} {yv6 : Int32} {y6 : Int}, yv4.toInt = y4 → yv6.toInt = y6 → Wd G ((injR SB) S) H → va_S (AG G) s.heap H locs → lv_has ls 7 [(0, .ref (G.2.2 1042)), (3, .int xv3), (4, .int yv4), (5, .int xv5), (6, .int yv6)] → P42 y4 y6 → W p l e (rmF 4 89) s m args below meth c H locs 0 0 (MQ below (QcI G (injR SB) (fun r u => k r ∧ u = S)) args s 0 0 (AG G)) (F0 m 42 ls [])) (h : wX8_isTwice_64 S x3 x5 x6 P30 P42 k) : W p l e (rmF 4 89) s m args below meth c H locs 0 0 (MQ below (QcI G (injR SB) (fun r u => k r ∧ u = S)) args s 0 0 (AG G)) (F0 m 64 ls []) := by
  refine y_iconst C dX8_isTwice_64 ⟨by decide, by decide⟩ (fun v1 t1 => ?_)
  refine lv_goto (tgt := 69) C.1.1 C.1.2.1 dX8_isTwice_65 (by decide) ?_
  refine lv_istore (lv' := [(4, .int v1), (0, .ref (G.2.2 1042)), (3, .int xv3), (5, .int xv5), (6, .int xv6)]) C.1.1 C.1.2.1 dX8_isTwice_69 hl (by decide) rfl (fun ls hl => ?_)
  obtain ⟨x_2, e2⟩ : ∃ z : Int, z = w32 (x6 + 1) := ⟨_, rfl⟩
  have h := h x_2 e2
  obtain ⟨v2, t2, g2⟩ : ∃ z : Int32, z.toInt = x_2 ∧ xv6 + Int32.ofInt 1 = z := ⟨_, (ti_inc xt6 ⟨by decide, by decide⟩).trans e2.symm, rfl⟩
  refine lv_iinc (v := v2) (lv' := [(6, .int v2), (4, .int v1), (0, .ref (G.2.2 1042)), (3, .int xv3), (5, .int xv5)]) C.1.1 C.1.2.1 dX8_isTwice_71 hl (k := 4) rfl g2 (by decide) rfl (fun ls hl => ?_)
  refine lv_goto (tgt := 42) C.1.1 C.1.2.1 dX8_isTwice_74 (by decide) ?_
  exact hP42 t1 t2 hw hS (lv_sub hl [2, 3, 1, 4, 0] rfl) h
set_option maxHeartbeats 4000000 in
set_option maxRecDepth 10000 in
theorem uX8_isTwice_42_b {p : Program} {l : Launch} {e : Env} {s : State} {m : MethodId} {args : Array Value} {below : List Frame} {meth : Method} {c : Code} {G : GG} {SB : St} (C : Cx p s m args meth c G RX8 cX8_isTwice 7 (some .boolean)) {S : St} {H : Heap} {locs : List Loc} {ls : Array Slot} {P30 : Int → Int → Prop} {P42 : Int → Int → Prop} {k : Int → Prop} (hw : Wd G ((injR SB) S) H) (hS : va_S (AG G) s.heap H locs) {xv3 : Int32} {x3 : Int} (xt3 : xv3.toInt = x3) {xv4 : Int32} {x4 : Int} (xt4 : xv4.toInt = x4) {xv5 : Int32} {x5 : Int} (xt5 : xv5.toInt = x5) {xv6 : Int32} {x6 : Int} (xt6 : xv6.toInt = x6) (hl : lv_has ls 7 [(0, .ref (G.2.2 1042)), (3, .int xv3), (4, .int xv4), (5, .int xv5), (6, .int xv6)]) (hP30 : ∀ {H : Heap} {locs : List Loc} {ls : Array Slot} {yv4 : Int32} {y4 : Int} {yv5 : Int32} {y5 : Int}, yv4.toInt = y4 → yv5.toInt = y5 → Wd G ((injR SB) S) H → va_S (AG G) s.heap H locs → lv_has ls 7 [(0, .ref (G.2.2 1042)), (3, .int xv3), (4, .int yv4), (5, .int yv5)] → P30 y4 y5 → W p l e (rmF 4 89) s m args below meth c H locs 0 0 (MQ below (QcI G (injR SB) (fun r u => k r ∧ u = S)) args s 0 0 (AG G)) (F0 m 30 ls [])) (hP42 : ∀ {H : Heap} {locs : List Loc} {ls : Array Slot} {yv4 : Int32} {y4 : Int} {yv6 : Int32} {y6 : Int}, yv4.toInt = y4 → yv6.toInt = y6 → Wd G ((injR SB) S) H → va_S (AG G) s.heap H locs → lv_has ls 7 [(0, .ref (G.2.2 1042)), (3, .int xv3), (4, .int yv4), (5, .int xv5), (6, .int yv6)] → P42 y4 y6 → W p l e (rmF 4 89) s m args below meth c H locs 0 0 (MQ below (QcI G (injR SB) (fun r u => k r ∧ u = S)) args s 0 0 (AG G)) (F0 m 42 ls [])) (h : wX8_isTwice_42_b S x3 x4 x5 x6 P30 P42 k) : W p l e (rmF 4 89) s m args below meth c H locs 0 0 (MQ below (QcI G (injR SB) (fun r u => k r ∧ u = S)) args s 0 0 (AG G)) (F0 m 42 ls []) := by
  refine lv_iload C.1.1 C.1.2.1 dX8_isTwice_42 (lv_at hl 4 rfl) ?_
  refine lv_iload_n C.1.1 C.1.2.1 dX8_isTwice_44 rfl (lv_at hl 1 rfl) ?_
  refine y_icmp_ge C xt6 xt3 dX8_isTwice_45 (tgt := 77) (by decide) (fun c1 => ?_) (fun c1 => ?_)
  · have h := h.1 c1
    obtain ⟨x_2, e2⟩ : ∃ z : Int, z = w32 (x5 + 1) := ⟨_, rfl⟩
    have h := h x_2 e2
    obtain ⟨v2, t2, g2⟩ : ∃ z : Int32, z.toInt = x_2 ∧ xv5 + Int32.ofInt 1 = z := ⟨_, (ti_inc xt5 ⟨by decide, by decide⟩).trans e2.symm, rfl⟩
    refine lv_iinc (v := v2) (lv' := [(5, .int v2), (0, .ref (G.2.2 1042)), (3, .int xv3), (4, .int xv4), (6, .int xv6)]) C.1.1 C.1.2.1 dX8_isTwice_77 hl (k := 3) rfl g2 (by decide) rfl (fun ls hl => ?_)
    refine lv_goto (tgt := 30) C.1.1 C.1.2.1 dX8_isTwice_80 (by decide) ?_
    exact hP30 xt4 t2 hw hS (lv_sub hl [1, 2, 3, 0] rfl) h
  · have h := h.2 c1
    refine lv_iload C.1.1 C.1.2.1 dX8_isTwice_48 (lv_at hl 2 rfl) ?_
    refine y_if_ne C xt4 dX8_isTwice_50 (tgt := 64) (by decide) (fun c3 => ?_) (fun c3 => ?_)
    · have h := h.1 c3
      exact uX8_isTwice_64 C hw hS xt3 xt5 xt6 (lv_sub hl [0, 1, 3, 4] rfl) hP30 hP42 h
    · have h := h.2 c3
      refine lv_aload_n C.1.1 C.1.2.1 dX8_isTwice_53 rfl (lv_at hl 0 rfl) ?_
      refine lv_iload C.1.1 C.1.2.1 dX8_isTwice_54 (lv_at hl 3 rfl) ?_
      refine lv_iload C.1.1 C.1.2.1 dX8_isTwice_56 (lv_at hl 4 rfl) ?_
      refine y_cVIp C (As := [.int xv5, .int xv6]) (rest := []) ml_X8_235 (kX8_isErasedLike l G SB S xt5 xt6 h) (ocr SB) (T := TX8) (N := 60) rfl (by decide) ⟨(Nat.le_of_ble_eq_true rfl), (Nat.le_of_ble_eq_true rfl)⟩ hl.1 rfl rfl (Nat.le_of_ble_eq_true rfl) hw hS dX8_isTwice_58 (fun v4 x_4 H locs t4 h hw hS => ?_)
      refine y_if_eq C t4 dX8_isTwice_61 (tgt := 68) (by decide) (fun c5 => ?_) (fun c5 => ?_)
      · have h := h.1 c5
        refine y_iconst C dX8_isTwice_68 ⟨by decide, by decide⟩ (fun v6 t6 => ?_)
        refine lv_istore (lv' := [(4, .int v6), (0, .ref (G.2.2 1042)), (3, .int xv3), (5, .int xv5), (6, .int xv6)]) C.1.1 C.1.2.1 dX8_isTwice_69 hl (by decide) rfl (fun ls hl => ?_)
        obtain ⟨x_7, e7⟩ : ∃ z : Int, z = w32 (x6 + 1) := ⟨_, rfl⟩
        have h := h x_7 e7
        obtain ⟨v7, t7, g7⟩ : ∃ z : Int32, z.toInt = x_7 ∧ xv6 + Int32.ofInt 1 = z := ⟨_, (ti_inc xt6 ⟨by decide, by decide⟩).trans e7.symm, rfl⟩
        refine lv_iinc (v := v7) (lv' := [(6, .int v7), (4, .int v6), (0, .ref (G.2.2 1042)), (3, .int xv3), (5, .int xv5)]) C.1.1 C.1.2.1 dX8_isTwice_71 hl (k := 4) rfl g7 (by decide) rfl (fun ls hl => ?_)
        refine lv_goto (tgt := 42) C.1.1 C.1.2.1 dX8_isTwice_74 (by decide) ?_
        exact hP42 t6 t7 hw hS (lv_sub hl [2, 3, 1, 4, 0] rfl) h
      · have h := h.2 c5
        exact uX8_isTwice_64 C hw hS xt3 xt5 xt6 (lv_sub hl [0, 1, 3, 4] rfl) hP30 hP42 h
set_option maxHeartbeats 4000000 in
set_option maxRecDepth 10000 in
theorem uX8_isTwice_42 {p : Program} {l : Launch} {e : Env} {s : State} {m : MethodId} {args : Array Value} {below : List Frame} {meth : Method} {c : Code} {G : GG} {SB : St} (C : Cx p s m args meth c G RX8 cX8_isTwice 7 (some .boolean)) {S : St} {H : Heap} {locs : List Loc} {ls : Array Slot} {P30 : Int → Int → Prop} {k : Int → Prop} (hw : Wd G ((injR SB) S) H) (hS : va_S (AG G) s.heap H locs) {xv3 : Int32} {x3 : Int} (xt3 : xv3.toInt = x3) {xv4 : Int32} {x4 : Int} (xt4 : xv4.toInt = x4) {xv5 : Int32} {x5 : Int} (xt5 : xv5.toInt = x5) {xv6 : Int32} {x6 : Int} (xt6 : xv6.toInt = x6) (hl : lv_has ls 7 [(0, .ref (G.2.2 1042)), (3, .int xv3), (4, .int xv4), (5, .int xv5), (6, .int xv6)]) (hP30 : ∀ {H : Heap} {locs : List Loc} {ls : Array Slot} {yv4 : Int32} {y4 : Int} {yv5 : Int32} {y5 : Int}, yv4.toInt = y4 → yv5.toInt = y5 → Wd G ((injR SB) S) H → va_S (AG G) s.heap H locs → lv_has ls 7 [(0, .ref (G.2.2 1042)), (3, .int xv3), (4, .int yv4), (5, .int yv5)] → P30 y4 y5 → W p l e (rmF 4 89) s m args below meth c H locs 0 0 (MQ below (QcI G (injR SB) (fun r u => k r ∧ u = S)) args s 0 0 (AG G)) (F0 m 30 ls [])) (h : wX8_isTwice_42 S x3 x4 x5 x6 P30 k) : W p l e (rmF 4 89) s m args below meth c H locs 0 0 (MQ below (QcI G (injR SB) (fun r u => k r ∧ u = S)) args s 0 0 (AG G)) (F0 m 42 ls []) := by
  have key : ∀ (n : Nat) {H : Heap} {locs : List Loc} {ls : Array Slot} {xv4 : Int32} {x4 : Int} {xv6 : Int32} {x6 : Int}, xv4.toInt = x4 → xv6.toInt = x6 → Wd G ((injR SB) S) H → va_S (AG G) s.heap H locs → lv_has ls 7 [(0, .ref (G.2.2 1042)), (3, .int xv3), (4, .int xv4), (5, .int xv5), (6, .int xv6)] → itP (fun (P : Int × Int → Prop) (a : Int × Int) => wX8_isTwice_42_b S x3 a.1 x5 a.2 P30 (fun b0 b1 => P (b0, b1)) k) n (x4, x6) → W p l e (rmF 4 89) s m args below meth c H locs 0 0 (MQ below (QcI G (injR SB) (fun r u => k r ∧ u = S)) args s 0 0 (AG G)) (F0 m 42 ls []) := by
    intro n
    induction n with
    | zero => intro H locs ls xv4 x4 xv6 x6 xt4 xt6 hw hS hl h; exact h.elim
    | succ n ih =>
      intro H locs ls xv4 x4 xv6 x6 xt4 xt6 hw hS hl h
      exact uX8_isTwice_42_b C hw hS xt3 xt4 xt5 xt6 hl hP30 (P42 := fun b0 b1 => itP _ n (b0, b1)) (fun q0 q1 hw hS hl h => ih q0 q1 hw hS hl h) h
  obtain ⟨n, hn⟩ := h
  exact key n xt4 xt6 hw hS hl hn
set_option maxHeartbeats 4000000 in
set_option maxRecDepth 10000 in
theorem uX8_isTwice_30_b {p : Program} {l : Launch} {e : Env} {s : State} {m : MethodId} {args : Array Value} {below : List Frame} {meth : Method} {c : Code} {G : GG} {SB : St} (C : Cx p s m args meth c G RX8 cX8_isTwice 7 (some .boolean)) {S : St} {H : Heap} {locs : List Loc} {ls : Array Slot}  {P30 : Int → Int → Prop} {k : Int → Prop} (hw : Wd G ((injR SB) S) H) (hS : va_S (AG G) s.heap H locs) {xv3 : Int32} {x3 : Int} (xt3 : xv3.toInt = x3) {xv4 : Int32} {x4 : Int} (xt4 : xv4.toInt = x4) {xv5 : Int32} {x5 : Int} (xt5 : xv5.toInt = x5) (hl : lv_has ls 7 [(0, .ref (G.2.2 1042)), (3, .int xv3), (4, .int xv4), (5, .int xv5)])  (hP30 : ∀ {H : Heap} {locs : List Loc} {ls : Array Slot} {yv4 : Int32} {y4 : Int} {yv5 : Int32} {y5 : Int}, yv4.toInt = y4 → yv5.toInt = y5 → Wd G ((injR SB) S) H → va_S (AG G) s.heap H locs → lv_has ls 7 [(0, .ref (G.2.2 1042)), (3, .int xv3), (4, .int yv4), (5, .int yv5)] → P30 y4 y5 → W p l e (rmF 4 89) s m args below meth c H locs 0 0 (MQ below (QcI G (injR SB) (fun r u => k r ∧ u = S)) args s 0 0 (AG G)) (F0 m 30 ls [])) (h : wX8_isTwice_30_b S x3 x4 x5 P30 k) : W p l e (rmF 4 89) s m args below meth c H locs 0 0 (MQ below (QcI G (injR SB) (fun r u => k r ∧ u = S)) args s 0 0 (AG G)) (F0 m 30 ls []) := by
  refine lv_iload C.1.1 C.1.2.1 dX8_isTwice_30 (lv_at hl 3 rfl) ?_
  refine lv_iload_n C.1.1 C.1.2.1 dX8_isTwice_32 rfl (lv_at hl 1 rfl) ?_
  refine y_icmp_ge C xt5 xt3 dX8_isTwice_33 (tgt := 83) (by decide) (fun c1 => ?_) (fun c1 => ?_)
  · have h := h.1 c1
    refine lv_iload C.1.1 C.1.2.1 dX8_isTwice_83 (lv_at hl 2 rfl) ?_
    obtain ⟨z, h⟩ := h
    exact y_zret C hw hS xt4 z ⟨h, rfl⟩ dX8_isTwice_85
  · have h := h.2 c1
    refine lv_iload C.1.1 C.1.2.1 dX8_isTwice_36 (lv_at hl 3 rfl) ?_
    refine y_iconst C dX8_isTwice_38 ⟨by decide, by decide⟩ (fun v2 t2 => ?_)
    refine y_iadd C xt5 t2 dX8_isTwice_39 (fun v3 t3 => ?_)
    obtain ⟨x_4, e4⟩ : ∃ z : Int, z = w32 (x5 + 1) := ⟨_, rfl⟩
    have h := h x_4 e4
    have t4 := t3.trans e4.symm
    refine lv_istore (lv' := [(6, .int v3), (0, .ref (G.2.2 1042)), (3, .int xv3), (4, .int xv4), (5, .int xv5)]) C.1.1 C.1.2.1 dX8_isTwice_40 hl (by decide) rfl (fun ls hl => ?_)
    exact uX8_isTwice_42 C hw hS xt3 xt4 xt5 t4 (lv_sub hl [1, 2, 3, 4, 0] rfl) hP30 h
set_option maxHeartbeats 4000000 in
set_option maxRecDepth 10000 in
theorem uX8_isTwice_30 {p : Program} {l : Launch} {e : Env} {s : State} {m : MethodId} {args : Array Value} {below : List Frame} {meth : Method} {c : Code} {G : GG} {SB : St} (C : Cx p s m args meth c G RX8 cX8_isTwice 7 (some .boolean)) {S : St} {H : Heap} {locs : List Loc} {ls : Array Slot}  {k : Int → Prop} (hw : Wd G ((injR SB) S) H) (hS : va_S (AG G) s.heap H locs) {xv3 : Int32} {x3 : Int} (xt3 : xv3.toInt = x3) {xv4 : Int32} {x4 : Int} (xt4 : xv4.toInt = x4) {xv5 : Int32} {x5 : Int} (xt5 : xv5.toInt = x5) (hl : lv_has ls 7 [(0, .ref (G.2.2 1042)), (3, .int xv3), (4, .int xv4), (5, .int xv5)])  (h : wX8_isTwice_30 S x3 x4 x5 k) : W p l e (rmF 4 89) s m args below meth c H locs 0 0 (MQ below (QcI G (injR SB) (fun r u => k r ∧ u = S)) args s 0 0 (AG G)) (F0 m 30 ls []) := by
  have key : ∀ (n : Nat) {H : Heap} {locs : List Loc} {ls : Array Slot} {xv4 : Int32} {x4 : Int} {xv5 : Int32} {x5 : Int}, xv4.toInt = x4 → xv5.toInt = x5 → Wd G ((injR SB) S) H → va_S (AG G) s.heap H locs → lv_has ls 7 [(0, .ref (G.2.2 1042)), (3, .int xv3), (4, .int xv4), (5, .int xv5)] → itP (fun (P : Int × Int → Prop) (a : Int × Int) => wX8_isTwice_30_b S x3 a.1 a.2 (fun b0 b1 => P (b0, b1)) k) n (x4, x5) → W p l e (rmF 4 89) s m args below meth c H locs 0 0 (MQ below (QcI G (injR SB) (fun r u => k r ∧ u = S)) args s 0 0 (AG G)) (F0 m 30 ls []) := by
    intro n
    induction n with
    | zero => intro H locs ls xv4 x4 xv5 x5 xt4 xt5 hw hS hl h; exact h.elim
    | succ n ih =>
      intro H locs ls xv4 x4 xv5 x5 xt4 xt5 hw hS hl h
      exact uX8_isTwice_30_b C hw hS xt3 xt4 xt5 hl  (P30 := fun b0 b1 => itP _ n (b0, b1)) (fun q0 q1 hw hS hl h => ih q0 q1 hw hS hl h) h
  obtain ⟨n, hn⟩ := h
  exact key n xt4 xt5 hw hS hl hn
set_option maxHeartbeats 4000000 in
set_option maxRecDepth 10000 in
theorem uX8_isTwice_0 {p : Program} {l : Launch} {e : Env} {s : State} {m : MethodId} {args : Array Value} {below : List Frame} {meth : Method} {c : Code} {G : GG} {SB : St} (C : Cx p s m args meth c G RX8 cX8_isTwice 7 (some .boolean)) {S : St} {H : Heap} {locs : List Loc} {ls : Array Slot}  {k : Int → Prop} (hw : Wd G ((injR SB) S) H) (hS : va_S (AG G) s.heap H locs) {xv1 : Int32} {x1 : Int} (xt1 : xv1.toInt = x1) (hl : lv_has ls 7 [(0, .ref (G.2.2 1042)), (1, .int xv1)])  (h : wX8_isTwice_0 S x1 k) : W p l e (rmF 4 89) s m args below meth c H locs 0 0 (MQ below (QcI G (injR SB) (fun r u => k r ∧ u = S)) args s 0 0 (AG G)) (F0 m 0 ls []) := by
  refine lv_aload_n C.1.1 C.1.2.1 dX8_isTwice_0 rfl (lv_at hl 0 rfl) ?_
  refine y_getA C fl_X8_110 hw (ocr SB) rfl (o := 24) rfl dX8_isTwice_1 ?_
  refine lv_aload_n C.1.1 C.1.2.1 dX8_isTwice_4 rfl (lv_at hl 0 rfl) ?_
  refine lv_iload_n C.1.1 C.1.2.1 dX8_isTwice_5 rfl (lv_at hl 1 rfl) ?_
  refine y_cVIp C (As := [.int xv1]) (rest := [.ref (G.2.2 (1066))]) ml_X8_214 (kX8_t l G SB S xt1 h) (ocr SB) (T := TX8) (N := 60) rfl (by decide) ⟨(Nat.le_of_ble_eq_true rfl), (Nat.le_of_ble_eq_true rfl)⟩ hl.1 rfl rfl (Nat.le_of_ble_eq_true rfl) hw hS dX8_isTwice_6 (fun v2 x_2 H locs t2 h hw hS => ?_)
  obtain ⟨b3, h⟩ := h
  refine y_iald C hw (acr_33 SB) t2 b3 dX8_isTwice_9 (fun v3 t3 => ?_)
  obtain ⟨x_4, e4⟩ : ∃ z : Int, z = S 24 x_2 := ⟨_, rfl⟩
  have h := h x_4 e4
  have t4 := t3.trans e4.symm
  refine lv_istore_n (lv' := [(2, .int v3), (0, .ref (G.2.2 1042)), (1, .int xv1)]) C.1.1 C.1.2.1 dX8_isTwice_10 rfl hl (by decide) rfl (fun ls hl => ?_)
  refine lv_iload_n C.1.1 C.1.2.1 dX8_isTwice_11 rfl (lv_at hl 0 rfl) ?_
  refine lv_aload_n C.1.1 C.1.2.1 dX8_isTwice_12 rfl (lv_at hl 1 rfl) ?_
  refine y_getA C fl_X8_113 hw (ocr SB) rfl (o := 25) rfl dX8_isTwice_13 ?_
  refine lv_aload_n C.1.1 C.1.2.1 dX8_isTwice_16 rfl (lv_at hl 1 rfl) ?_
  refine lv_iload_n C.1.1 C.1.2.1 dX8_isTwice_17 rfl (lv_at hl 2 rfl) ?_
  refine y_cVIp C (As := [.int xv1]) (rest := [.ref (G.2.2 (1067)), .int v3]) ml_X8_214 (kX8_t l G SB S xt1 h) (ocr SB) (T := TX8) (N := 60) rfl (by decide) ⟨(Nat.le_of_ble_eq_true rfl), (Nat.le_of_ble_eq_true rfl)⟩ hl.1 rfl rfl (Nat.le_of_ble_eq_true rfl) hw hS dX8_isTwice_18 (fun v6 x_6 H locs t6 h hw hS => ?_)
  obtain ⟨b7, h⟩ := h
  refine y_iald C hw (acr_34 SB) t6 b7 dX8_isTwice_21 (fun v7 t7 => ?_)
  refine y_iadd C t4 t7 dX8_isTwice_22 (fun v8 t8 => ?_)
  obtain ⟨x_9, e9⟩ : ∃ z : Int, z = w32 (x_4 + S 25 x_6) := ⟨_, rfl⟩
  have h := h x_9 e9
  have t9 := t8.trans e9.symm
  refine lv_istore_n (lv' := [(3, .int v8), (2, .int v3), (0, .ref (G.2.2 1042)), (1, .int xv1)]) C.1.1 C.1.2.1 dX8_isTwice_23 rfl hl (by decide) rfl (fun ls hl => ?_)
  refine y_iconst C dX8_isTwice_24 ⟨by decide, by decide⟩ (fun v10 t10 => ?_)
  refine lv_istore (lv' := [(4, .int v10), (3, .int v8), (2, .int v3), (0, .ref (G.2.2 1042)), (1, .int xv1)]) C.1.1 C.1.2.1 dX8_isTwice_25 hl (by decide) rfl (fun ls hl => ?_)
  refine lv_iload_n C.1.1 C.1.2.1 dX8_isTwice_27 rfl (lv_at hl 2 rfl) ?_
  refine lv_istore (lv' := [(5, .int v3), (4, .int v10), (3, .int v8), (2, .int v3), (0, .ref (G.2.2 1042)), (1, .int xv1)]) C.1.1 C.1.2.1 dX8_isTwice_28 hl (by decide) rfl (fun ls hl => ?_)
  exact uX8_isTwice_30 C hw hS t9 t10 t4 (lv_sub hl [4, 2, 1, 0] rfl)  h
theorem kX8_isTwice (l : Launch) (G : GG) (SB S : St) {xv1 : Int32} {x1 : Int} (xt1 : xv1.toInt = x1) {k : Int → Prop} (h : wX8_isTwice S x1 k) : CnI l yX8_isTwice cX8_isTwice 7 (some .boolean) 4 89 G (injR SB) [.ref (G.2.2 1042), .int xv1] S (fun r u => k r ∧ u = S) :=
  cn_body (by decide +kernel) (Nat.le_of_ble_eq_true rfl) (fun p e s m args below meth c ls C hw hl => uX8_isTwice_0 C hw va_S.rf xt1 (lv_sub hl [0, 1] rfl) h)
set_option maxHeartbeats 4000000 in
set_option maxRecDepth 10000 in
theorem uX8_isOver_0 {p : Program} {l : Launch} {e : Env} {s : State} {m : MethodId} {args : Array Value} {below : List Frame} {meth : Method} {c : Code} {G : GG} {SB : St} (C : Cx p s m args meth c G RX8 cX8_isOver 3 (some .boolean)) {S : St} {H : Heap} {locs : List Loc} {ls : Array Slot}  {k : Int → Prop} (hw : Wd G ((injR SB) S) H) (hS : va_S (AG G) s.heap H locs) {xv1 : Int32} {x1 : Int} (xt1 : xv1.toInt = x1) {xv2 : Int32} {x2 : Int} (xt2 : xv2.toInt = x2) (hl : lv_has ls 3 [(0, .ref (G.2.2 1042)), (1, .int xv1), (2, .int xv2)])  (h : wX8_isOver_0 S x1 x2 k) : W p l e (rmF 1 21) s m args below meth c H locs 0 0 (MQ below (QcI G (injR SB) (fun r u => k r ∧ u = S)) args s 0 0 (AG G)) (F0 m 0 ls []) := by
  refine lv_aload_n C.1.1 C.1.2.1 dX8_isOver_0 rfl (lv_at hl 0 rfl) ?_
  refine y_getA C fl_X8_140 hw (ocr SB) rfl (o := 34) rfl dX8_isOver_1 ?_
  refine y_bipush C dX8_isOver_4 ⟨by decide, by decide⟩ (fun v2 t2 => ?_)
  refine lv_aload_n C.1.1 C.1.2.1 dX8_isOver_6 rfl (lv_at hl 0 rfl) ?_
  refine lv_iload_n C.1.1 C.1.2.1 dX8_isOver_7 rfl (lv_at hl 1 rfl) ?_
  refine y_cVIp C (As := [.int xv1]) (rest := [.int v2, .ref (G.2.2 (1076))]) ml_X8_218 (kX8_m l G SB S xt1 h) (ocr SB) (T := TX8) (N := 60) rfl (by decide) ⟨(Nat.le_of_ble_eq_true rfl), (Nat.le_of_ble_eq_true rfl)⟩ hl.1 rfl rfl (Nat.le_of_ble_eq_true rfl) hw hS dX8_isOver_8 (fun v3 x_3 H locs t3 h hw hS => ?_)
  refine y_imul C t2 t3 dX8_isOver_11 (fun v4 t4 => ?_)
  refine lv_iload_n C.1.1 C.1.2.1 dX8_isOver_12 rfl (lv_at hl 2 rfl) ?_
  refine y_iadd C t4 xt2 dX8_isOver_13 (fun v5 t5 => ?_)
  obtain ⟨b6, h⟩ := h
  refine y_zald C hw (acr_43 SB) t5 b6 dX8_isOver_14 (fun v6 t6 => ?_)
  obtain ⟨z, h⟩ := h
  exact y_zret C hw hS t6 z ⟨h, rfl⟩ dX8_isOver_15
theorem kX8_isOver (l : Launch) (G : GG) (SB S : St) {xv1 : Int32} {x1 : Int} (xt1 : xv1.toInt = x1) {xv2 : Int32} {x2 : Int} (xt2 : xv2.toInt = x2) {k : Int → Prop} (h : wX8_isOver S x1 x2 k) : CnI l yX8_isOver cX8_isOver 3 (some .boolean) 1 21 G (injR SB) [.ref (G.2.2 1042), .int xv1, .int xv2] S (fun r u => k r ∧ u = S) :=
  cn_body (by decide +kernel) (Nat.le_of_ble_eq_true rfl) (fun p e s m args below meth c ls C hw hl => uX8_isOver_0 C hw va_S.rf xt1 xt2 (lv_sub hl [0, 1, 2] rfl) h)
set_option maxHeartbeats 4000000 in
set_option maxRecDepth 10000 in
theorem uX8_isAkin_78_b {p : Program} {l : Launch} {e : Env} {s : State} {m : MethodId} {args : Array Value} {below : List Frame} {meth : Method} {c : Code} {G : GG} {SB : St} (C : Cx p s m args meth c G RX8 cX8_isAkin 6 (some .boolean)) {S : St} {H : Heap} {locs : List Loc} {ls : Array Slot}  {P78 : Int → Int → Prop} {k : Int → Prop} (hw : Wd G ((injR SB) S) H) (hS : va_S (AG G) s.heap H locs) {xv2 : Int32} {x2 : Int} (xt2 : xv2.toInt = x2) {xv3 : Int32} {x3 : Int} (xt3 : xv3.toInt = x3) {xv4 : Int32} {x4 : Int} (xt4 : xv4.toInt = x4) {xv5 : Int32} {x5 : Int} (xt5 : xv5.toInt = x5) (hl : lv_has ls 6 [(0, .ref (G.2.2 1042)), (2, .int xv2), (3, .int xv3), (4, .int xv4), (5, .int xv5)])  (hP78 : ∀ {H : Heap} {locs : List Loc} {ls : Array Slot} {yv4 : Int32} {y4 : Int} {yv5 : Int32} {y5 : Int}, yv4.toInt = y4 → yv5.toInt = y5 → Wd G ((injR SB) S) H → va_S (AG G) s.heap H locs → lv_has ls 6 [(0, .ref (G.2.2 1042)), (2, .int xv2), (3, .int xv3), (4, .int yv4), (5, .int yv5)] → P78 y4 y5 → W p l e (rmF 4 93) s m args below meth c H locs 0 0 (MQ below (QcI G (injR SB) (fun r u => k r ∧ u = S)) args s 0 0 (AG G)) (F0 m 78 ls [])) (h : wX8_isAkin_78_b S x2 x3 x4 x5 P78 k) : W p l e (rmF 4 93) s m args below meth c H locs 0 0 (MQ below (QcI G (injR SB) (fun r u => k r ∧ u = S)) args s 0 0 (AG G)) (F0 m 78 ls []) := by
  refine lv_iload C.1.1 C.1.2.1 dX8_isAkin_78 (lv_at hl 4 rfl) ?_
  refine lv_aload_n C.1.1 C.1.2.1 dX8_isAkin_80 rfl (lv_at hl 0 rfl) ?_
  refine y_getA C fl_X8_49 hw (ocr SB) rfl (o := 4) rfl dX8_isAkin_81 ?_
  refine lv_aload_n C.1.1 C.1.2.1 dX8_isAkin_84 rfl (lv_at hl 0 rfl) ?_
  refine y_getI C fl_X8_208 hw (ocr SB) rfl dX8_isAkin_85 (fun v2 t2 => ?_)
  obtain ⟨b3, h⟩ := h
  refine y_iald C hw (acr_13 SB) t2 b3 dX8_isAkin_88 (fun v3 t3 => ?_)
  refine y_icmp_ge C xt5 t3 dX8_isAkin_89 (tgt := 136) (by decide) (fun c4 => ?_) (fun c4 => ?_)
  · have h := h.1 c4
    refine lv_iload C.1.1 C.1.2.1 dX8_isAkin_136 (lv_at hl 3 rfl) ?_
    obtain ⟨z, h⟩ := h
    exact y_zret C hw hS xt4 z ⟨h, rfl⟩ dX8_isAkin_138
  · have h := h.2 c4
    refine lv_iload C.1.1 C.1.2.1 dX8_isAkin_92 (lv_at hl 3 rfl) ?_
    refine y_if_ne C xt4 dX8_isAkin_94 (tgt := 136) (by decide) (fun c5 => ?_) (fun c5 => ?_)
    · have h := h.1 c5
      refine lv_iload C.1.1 C.1.2.1 dX8_isAkin_136 (lv_at hl 3 rfl) ?_
      obtain ⟨z, h⟩ := h
      exact y_zret C hw hS xt4 z ⟨h, rfl⟩ dX8_isAkin_138
    · have h := h.2 c5
      refine lv_iload C.1.1 C.1.2.1 dX8_isAkin_97 (lv_at hl 4 rfl) ?_
      refine lv_iload_n C.1.1 C.1.2.1 dX8_isAkin_99 rfl (lv_at hl 2 rfl) ?_
      refine y_icmp_eq C xt5 xt3 dX8_isAkin_100 (tgt := 127) (by decide) (fun c6 => ?_) (fun c6 => ?_)
      · have h := h.1 c6
        refine y_iconst C dX8_isAkin_127 ⟨by decide, by decide⟩ (fun v7 t7 => ?_)
        refine lv_istore (lv' := [(4, .int v7), (0, .ref (G.2.2 1042)), (2, .int xv2), (3, .int xv3), (5, .int xv5)]) C.1.1 C.1.2.1 dX8_isAkin_128 hl (by decide) rfl (fun ls hl => ?_)
        obtain ⟨x_8, e8⟩ : ∃ z : Int, z = w32 (x5 + 1) := ⟨_, rfl⟩
        have h := h x_8 e8
        obtain ⟨v8, t8, g8⟩ : ∃ z : Int32, z.toInt = x_8 ∧ xv5 + Int32.ofInt 1 = z := ⟨_, (ti_inc xt5 ⟨by decide, by decide⟩).trans e8.symm, rfl⟩
        refine lv_iinc (v := v8) (lv' := [(5, .int v8), (4, .int v7), (0, .ref (G.2.2 1042)), (2, .int xv2), (3, .int xv3)]) C.1.1 C.1.2.1 dX8_isAkin_130 hl (k := 4) rfl g8 (by decide) rfl (fun ls hl => ?_)
        refine lv_goto (tgt := 78) C.1.1 C.1.2.1 dX8_isAkin_133 (by decide) ?_
        exact hP78 t7 t8 hw hS (lv_sub hl [2, 3, 4, 1, 0] rfl) h
      · have h := h.2 c6
        refine lv_aload_n C.1.1 C.1.2.1 dX8_isAkin_103 rfl (lv_at hl 0 rfl) ?_
        refine lv_iload_n C.1.1 C.1.2.1 dX8_isAkin_104 rfl (lv_at hl 1 rfl) ?_
        refine lv_iload C.1.1 C.1.2.1 dX8_isAkin_105 (lv_at hl 4 rfl) ?_
        refine y_cVIp C (As := [.int xv2, .int xv5]) (rest := []) ml_X8_329 (kX8_isOver l G SB S xt2 xt5 h) (ocr SB) (T := TX8) (N := 60) rfl (by decide) ⟨(Nat.le_of_ble_eq_true rfl), (Nat.le_of_ble_eq_true rfl)⟩ hl.1 rfl rfl (Nat.le_of_ble_eq_true rfl) hw hS dX8_isAkin_107 (fun v9 x_9 H locs t9 h hw hS => ?_)
        refine y_if_eq C t9 dX8_isAkin_110 (tgt := 127) (by decide) (fun c10 => ?_) (fun c10 => ?_)
        · have h := h.1 c10
          refine y_iconst C dX8_isAkin_127 ⟨by decide, by decide⟩ (fun v11 t11 => ?_)
          refine lv_istore (lv' := [(4, .int v11), (0, .ref (G.2.2 1042)), (2, .int xv2), (3, .int xv3), (5, .int xv5)]) C.1.1 C.1.2.1 dX8_isAkin_128 hl (by decide) rfl (fun ls hl => ?_)
          obtain ⟨x_12, e12⟩ : ∃ z : Int, z = w32 (x5 + 1) := ⟨_, rfl⟩
          have h := h x_12 e12
          obtain ⟨v12, t12, g12⟩ : ∃ z : Int32, z.toInt = x_12 ∧ xv5 + Int32.ofInt 1 = z := ⟨_, (ti_inc xt5 ⟨by decide, by decide⟩).trans e12.symm, rfl⟩
          refine lv_iinc (v := v12) (lv' := [(5, .int v12), (4, .int v11), (0, .ref (G.2.2 1042)), (2, .int xv2), (3, .int xv3)]) C.1.1 C.1.2.1 dX8_isAkin_130 hl (k := 4) rfl g12 (by decide) rfl (fun ls hl => ?_)
          refine lv_goto (tgt := 78) C.1.1 C.1.2.1 dX8_isAkin_133 (by decide) ?_
          exact hP78 t11 t12 hw hS (lv_sub hl [2, 3, 4, 1, 0] rfl) h
        · have h := h.2 c10
          refine lv_aload_n C.1.1 C.1.2.1 dX8_isAkin_113 rfl (lv_at hl 0 rfl) ?_
          refine lv_iload C.1.1 C.1.2.1 dX8_isAkin_114 (lv_at hl 4 rfl) ?_
          refine lv_iload_n C.1.1 C.1.2.1 dX8_isAkin_116 rfl (lv_at hl 2 rfl) ?_
          refine y_cVIp C (As := [.int xv5, .int xv3]) (rest := []) ml_X8_329 (kX8_isOver l G SB S xt5 xt3 h) (ocr SB) (T := TX8) (N := 60) rfl (by decide) ⟨(Nat.le_of_ble_eq_true rfl), (Nat.le_of_ble_eq_true rfl)⟩ hl.1 rfl rfl (Nat.le_of_ble_eq_true rfl) hw hS dX8_isAkin_117 (fun v13 x_13 H locs t13 h hw hS => ?_)
          refine y_if_eq C t13 dX8_isAkin_120 (tgt := 127) (by decide) (fun c14 => ?_) (fun c14 => ?_)
          · have h := h.1 c14
            refine y_iconst C dX8_isAkin_127 ⟨by decide, by decide⟩ (fun v15 t15 => ?_)
            refine lv_istore (lv' := [(4, .int v15), (0, .ref (G.2.2 1042)), (2, .int xv2), (3, .int xv3), (5, .int xv5)]) C.1.1 C.1.2.1 dX8_isAkin_128 hl (by decide) rfl (fun ls hl => ?_)
            obtain ⟨x_16, e16⟩ : ∃ z : Int, z = w32 (x5 + 1) := ⟨_, rfl⟩
            have h := h x_16 e16
            obtain ⟨v16, t16, g16⟩ : ∃ z : Int32, z.toInt = x_16 ∧ xv5 + Int32.ofInt 1 = z := ⟨_, (ti_inc xt5 ⟨by decide, by decide⟩).trans e16.symm, rfl⟩
            refine lv_iinc (v := v16) (lv' := [(5, .int v16), (4, .int v15), (0, .ref (G.2.2 1042)), (2, .int xv2), (3, .int xv3)]) C.1.1 C.1.2.1 dX8_isAkin_130 hl (k := 4) rfl g16 (by decide) rfl (fun ls hl => ?_)
            refine lv_goto (tgt := 78) C.1.1 C.1.2.1 dX8_isAkin_133 (by decide) ?_
            exact hP78 t15 t16 hw hS (lv_sub hl [2, 3, 4, 1, 0] rfl) h
          · have h := h.2 c14
            refine y_iconst C dX8_isAkin_123 ⟨by decide, by decide⟩ (fun v17 t17 => ?_)
            refine lv_goto (tgt := 128) C.1.1 C.1.2.1 dX8_isAkin_124 (by decide) ?_
            refine lv_istore (lv' := [(4, .int v17), (0, .ref (G.2.2 1042)), (2, .int xv2), (3, .int xv3), (5, .int xv5)]) C.1.1 C.1.2.1 dX8_isAkin_128 hl (by decide) rfl (fun ls hl => ?_)
            obtain ⟨x_18, e18⟩ : ∃ z : Int, z = w32 (x5 + 1) := ⟨_, rfl⟩
            have h := h x_18 e18
            obtain ⟨v18, t18, g18⟩ : ∃ z : Int32, z.toInt = x_18 ∧ xv5 + Int32.ofInt 1 = z := ⟨_, (ti_inc xt5 ⟨by decide, by decide⟩).trans e18.symm, rfl⟩
            refine lv_iinc (v := v18) (lv' := [(5, .int v18), (4, .int v17), (0, .ref (G.2.2 1042)), (2, .int xv2), (3, .int xv3)]) C.1.1 C.1.2.1 dX8_isAkin_130 hl (k := 4) rfl g18 (by decide) rfl (fun ls hl => ?_)
            refine lv_goto (tgt := 78) C.1.1 C.1.2.1 dX8_isAkin_133 (by decide) ?_
            exact hP78 t17 t18 hw hS (lv_sub hl [2, 3, 4, 1, 0] rfl) h
set_option maxHeartbeats 4000000 in
set_option maxRecDepth 10000 in
theorem uX8_isAkin_78 {p : Program} {l : Launch} {e : Env} {s : State} {m : MethodId} {args : Array Value} {below : List Frame} {meth : Method} {c : Code} {G : GG} {SB : St} (C : Cx p s m args meth c G RX8 cX8_isAkin 6 (some .boolean)) {S : St} {H : Heap} {locs : List Loc} {ls : Array Slot}  {k : Int → Prop} (hw : Wd G ((injR SB) S) H) (hS : va_S (AG G) s.heap H locs) {xv2 : Int32} {x2 : Int} (xt2 : xv2.toInt = x2) {xv3 : Int32} {x3 : Int} (xt3 : xv3.toInt = x3) {xv4 : Int32} {x4 : Int} (xt4 : xv4.toInt = x4) {xv5 : Int32} {x5 : Int} (xt5 : xv5.toInt = x5) (hl : lv_has ls 6 [(0, .ref (G.2.2 1042)), (2, .int xv2), (3, .int xv3), (4, .int xv4), (5, .int xv5)])  (h : wX8_isAkin_78 S x2 x3 x4 x5 k) : W p l e (rmF 4 93) s m args below meth c H locs 0 0 (MQ below (QcI G (injR SB) (fun r u => k r ∧ u = S)) args s 0 0 (AG G)) (F0 m 78 ls []) := by
  have key : ∀ (n : Nat) {H : Heap} {locs : List Loc} {ls : Array Slot} {xv4 : Int32} {x4 : Int} {xv5 : Int32} {x5 : Int}, xv4.toInt = x4 → xv5.toInt = x5 → Wd G ((injR SB) S) H → va_S (AG G) s.heap H locs → lv_has ls 6 [(0, .ref (G.2.2 1042)), (2, .int xv2), (3, .int xv3), (4, .int xv4), (5, .int xv5)] → itP (fun (P : Int × Int → Prop) (a : Int × Int) => wX8_isAkin_78_b S x2 x3 a.1 a.2 (fun b0 b1 => P (b0, b1)) k) n (x4, x5) → W p l e (rmF 4 93) s m args below meth c H locs 0 0 (MQ below (QcI G (injR SB) (fun r u => k r ∧ u = S)) args s 0 0 (AG G)) (F0 m 78 ls []) := by
    intro n
    induction n with
    | zero => intro H locs ls xv4 x4 xv5 x5 xt4 xt5 hw hS hl h; exact h.elim
    | succ n ih =>
      intro H locs ls xv4 x4 xv5 x5 xt4 xt5 hw hS hl h
      exact uX8_isAkin_78_b C hw hS xt2 xt3 xt4 xt5 hl  (P78 := fun b0 b1 => itP _ n (b0, b1)) (fun q0 q1 hw hS hl h => ih q0 q1 hw hS hl h) h
  obtain ⟨n, hn⟩ := h
  exact key n xt4 xt5 hw hS hl hn
set_option maxHeartbeats 4000000 in
set_option maxRecDepth 10000 in
theorem uX8_isAkin_0 {p : Program} {l : Launch} {e : Env} {s : State} {m : MethodId} {args : Array Value} {below : List Frame} {meth : Method} {c : Code} {G : GG} {SB : St} (C : Cx p s m args meth c G RX8 cX8_isAkin 6 (some .boolean)) {S : St} {H : Heap} {locs : List Loc} {ls : Array Slot}  {k : Int → Prop} (hw : Wd G ((injR SB) S) H) (hS : va_S (AG G) s.heap H locs) {xv1 : Int32} {x1 : Int} (xt1 : xv1.toInt = x1) {xv2 : Int32} {x2 : Int} (xt2 : xv2.toInt = x2) {xv3 : Int32} {x3 : Int} (xt3 : xv3.toInt = x3) (hl : lv_has ls 6 [(0, .ref (G.2.2 1042)), (1, .int xv1), (2, .int xv2), (3, .int xv3)])  (h : wX8_isAkin_0 S x1 x2 x3 k) : W p l e (rmF 4 93) s m args below meth c H locs 0 0 (MQ below (QcI G (injR SB) (fun r u => k r ∧ u = S)) args s 0 0 (AG G)) (F0 m 0 ls []) := by
  refine lv_aload_n C.1.1 C.1.2.1 dX8_isAkin_0 rfl (lv_at hl 0 rfl) ?_
  refine lv_iload_n C.1.1 C.1.2.1 dX8_isAkin_1 rfl (lv_at hl 1 rfl) ?_
  refine lv_iload_n C.1.1 C.1.2.1 dX8_isAkin_2 rfl (lv_at hl 2 rfl) ?_
  refine lv_iload_n C.1.1 C.1.2.1 dX8_isAkin_3 rfl (lv_at hl 3 rfl) ?_
  refine y_cVIp C (As := [.int xv1, .int xv2, .int xv3]) (rest := []) ml_X8_326 (kX8_isLike l G SB S xt1 xt2 xt3 h) (ocr SB) (T := TX8) (N := 60) rfl (by decide) ⟨(Nat.le_of_ble_eq_true rfl), (Nat.le_of_ble_eq_true rfl)⟩ hl.1 rfl rfl (Nat.le_of_ble_eq_true rfl) hw hS dX8_isAkin_4 (fun v1 x_1 H locs t1 h hw hS => ?_)
  refine y_if_eq C t1 dX8_isAkin_7 (tgt := 36) (by decide) (fun c2 => ?_) (fun c2 => ?_)
  · have h := h.1 c2
    refine y_iconst C dX8_isAkin_36 ⟨by decide, by decide⟩ (fun v3 t3 => ?_)
    exact y_zret C hw hS t3 (Or.inl rfl) ⟨h, rfl⟩ dX8_isAkin_37
  · have h := h.2 c2
    refine lv_aload_n C.1.1 C.1.2.1 dX8_isAkin_10 rfl (lv_at hl 0 rfl) ?_
    refine y_getA C fl_X8_128 hw (ocr SB) rfl (o := 30) rfl dX8_isAkin_11 ?_
    refine lv_aload_n C.1.1 C.1.2.1 dX8_isAkin_14 rfl (lv_at hl 0 rfl) ?_
    refine lv_iload_n C.1.1 C.1.2.1 dX8_isAkin_15 rfl (lv_at hl 2 rfl) ?_
    refine y_cVIp C (As := [.int xv2]) (rest := [.ref (G.2.2 (1072))]) ml_X8_218 (kX8_m l G SB S xt2 h) (ocr SB) (T := TX8) (N := 60) rfl (by decide) ⟨(Nat.le_of_ble_eq_true rfl), (Nat.le_of_ble_eq_true rfl)⟩ hl.1 rfl rfl (Nat.le_of_ble_eq_true rfl) hw hS dX8_isAkin_16 (fun v5 x_5 H locs t5 h hw hS => ?_)
    obtain ⟨b6, h⟩ := h
    refine y_iald C hw (acr_39 SB) t5 b6 dX8_isAkin_19 (fun v6 t6 => ?_)
    refine y_if_eq C t6 dX8_isAkin_20 (tgt := 36) (by decide) (fun c7 => ?_) (fun c7 => ?_)
    · have h := h.1 c7
      refine y_iconst C dX8_isAkin_36 ⟨by decide, by decide⟩ (fun v8 t8 => ?_)
      exact y_zret C hw hS t8 (Or.inl rfl) ⟨h, rfl⟩ dX8_isAkin_37
    · have h := h.2 c7
      refine lv_aload_n C.1.1 C.1.2.1 dX8_isAkin_23 rfl (lv_at hl 0 rfl) ?_
      refine y_getA C fl_X8_128 hw (ocr SB) rfl (o := 30) rfl dX8_isAkin_24 ?_
      refine lv_aload_n C.1.1 C.1.2.1 dX8_isAkin_27 rfl (lv_at hl 0 rfl) ?_
      refine lv_iload_n C.1.1 C.1.2.1 dX8_isAkin_28 rfl (lv_at hl 3 rfl) ?_
      refine y_cVIp C (As := [.int xv3]) (rest := [.ref (G.2.2 (1072))]) ml_X8_218 (kX8_m l G SB S xt3 h) (ocr SB) (T := TX8) (N := 60) rfl (by decide) ⟨(Nat.le_of_ble_eq_true rfl), (Nat.le_of_ble_eq_true rfl)⟩ hl.1 rfl rfl (Nat.le_of_ble_eq_true rfl) hw hS dX8_isAkin_29 (fun v10 x_10 H locs t10 h hw hS => ?_)
      obtain ⟨b11, h⟩ := h
      refine y_iald C hw (acr_39 SB) t10 b11 dX8_isAkin_32 (fun v11 t11 => ?_)
      refine y_if_ne C t11 dX8_isAkin_33 (tgt := 38) (by decide) (fun c12 => ?_) (fun c12 => ?_)
      · have h := h.1 c12
        refine lv_aload_n C.1.1 C.1.2.1 dX8_isAkin_38 rfl (lv_at hl 0 rfl) ?_
        refine y_getA C fl_X8_128 hw (ocr SB) rfl (o := 30) rfl dX8_isAkin_39 ?_
        refine lv_aload_n C.1.1 C.1.2.1 dX8_isAkin_42 rfl (lv_at hl 0 rfl) ?_
        refine lv_iload_n C.1.1 C.1.2.1 dX8_isAkin_43 rfl (lv_at hl 3 rfl) ?_
        refine y_cVIp C (As := [.int xv3]) (rest := [.ref (G.2.2 (1072))]) ml_X8_218 (kX8_m l G SB S xt3 h) (ocr SB) (T := TX8) (N := 60) rfl (by decide) ⟨(Nat.le_of_ble_eq_true rfl), (Nat.le_of_ble_eq_true rfl)⟩ hl.1 rfl rfl (Nat.le_of_ble_eq_true rfl) hw hS dX8_isAkin_44 (fun v14 x_14 H locs t14 h hw hS => ?_)
        obtain ⟨b15, h⟩ := h
        refine y_iald C hw (acr_39 SB) t14 b15 dX8_isAkin_47 (fun v15 t15 => ?_)
        refine y_iconst C dX8_isAkin_48 ⟨by decide, by decide⟩ (fun v16 t16 => ?_)
        refine y_icmp_gt C t15 t16 dX8_isAkin_49 (tgt := 70) (by decide) (fun c17 => ?_) (fun c17 => ?_)
        · have h := h.1 c17
          refine y_iconst C dX8_isAkin_70 ⟨by decide, by decide⟩ (fun v18 t18 => ?_)
          exact y_zret C hw hS t18 (Or.inr rfl) ⟨h, rfl⟩ dX8_isAkin_71
        · have h := h.2 c17
          refine lv_aload_n C.1.1 C.1.2.1 dX8_isAkin_52 rfl (lv_at hl 0 rfl) ?_
          refine lv_iload_n C.1.1 C.1.2.1 dX8_isAkin_53 rfl (lv_at hl 1 rfl) ?_
          refine lv_aload_n C.1.1 C.1.2.1 dX8_isAkin_54 rfl (lv_at hl 0 rfl) ?_
          refine y_getA C fl_X8_122 hw (ocr SB) rfl (o := 28) rfl dX8_isAkin_55 ?_
          refine lv_aload_n C.1.1 C.1.2.1 dX8_isAkin_58 rfl (lv_at hl 0 rfl) ?_
          refine lv_iload_n C.1.1 C.1.2.1 dX8_isAkin_59 rfl (lv_at hl 3 rfl) ?_
          refine y_cVIp C (As := [.int xv3]) (rest := [.ref (G.2.2 (1070)), .int xv1, .ref (G.2.2 1042)]) ml_X8_218 (kX8_m l G SB S xt3 h) (ocr SB) (T := TX8) (N := 60) rfl (by decide) ⟨(Nat.le_of_ble_eq_true rfl), (Nat.le_of_ble_eq_true rfl)⟩ hl.1 rfl rfl (Nat.le_of_ble_eq_true rfl) hw hS dX8_isAkin_60 (fun v20 x_20 H locs t20 h hw hS => ?_)
          obtain ⟨b21, h⟩ := h
          refine y_iald C hw (acr_37 SB) t20 b21 dX8_isAkin_63 (fun v21 t21 => ?_)
          refine y_cVIp C (As := [.int xv1, .int v21]) (rest := []) ml_X8_258 (kX8_isSamePackage l G SB S xt1 t21 h) (ocr SB) (T := TX8) (N := 60) rfl (by decide) ⟨(Nat.le_of_ble_eq_true rfl), (Nat.le_of_ble_eq_true rfl)⟩ hl.1 rfl rfl (Nat.le_of_ble_eq_true rfl) hw hS dX8_isAkin_64 (fun v22 x_22 H locs t22 h hw hS => ?_)
          refine y_if_eq C t22 dX8_isAkin_67 (tgt := 72) (by decide) (fun c23 => ?_) (fun c23 => ?_)
          · have h := h.1 c23
            refine y_iconst C dX8_isAkin_72 ⟨by decide, by decide⟩ (fun v24 t24 => ?_)
            refine lv_istore (lv' := [(4, .int v24), (0, .ref (G.2.2 1042)), (1, .int xv1), (2, .int xv2), (3, .int xv3)]) C.1.1 C.1.2.1 dX8_isAkin_73 hl (by decide) rfl (fun ls hl => ?_)
            refine y_iconst C dX8_isAkin_75 ⟨by decide, by decide⟩ (fun v25 t25 => ?_)
            refine lv_istore (lv' := [(5, .int v25), (4, .int v24), (0, .ref (G.2.2 1042)), (1, .int xv1), (2, .int xv2), (3, .int xv3)]) C.1.1 C.1.2.1 dX8_isAkin_76 hl (by decide) rfl (fun ls hl => ?_)
            exact uX8_isAkin_78 C hw hS xt2 xt3 t24 t25 (lv_sub hl [2, 4, 5, 1, 0] rfl)  h
          · have h := h.2 c23
            refine y_iconst C dX8_isAkin_70 ⟨by decide, by decide⟩ (fun v26 t26 => ?_)
            exact y_zret C hw hS t26 (Or.inr rfl) ⟨h, rfl⟩ dX8_isAkin_71
      · have h := h.2 c12
        refine y_iconst C dX8_isAkin_36 ⟨by decide, by decide⟩ (fun v27 t27 => ?_)
        exact y_zret C hw hS t27 (Or.inl rfl) ⟨h, rfl⟩ dX8_isAkin_37
theorem kX8_isAkin (l : Launch) (G : GG) (SB S : St) {xv1 : Int32} {x1 : Int} (xt1 : xv1.toInt = x1) {xv2 : Int32} {x2 : Int} (xt2 : xv2.toInt = x2) {xv3 : Int32} {x3 : Int} (xt3 : xv3.toInt = x3) {k : Int → Prop} (h : wX8_isAkin S x1 x2 x3 k) : CnI l yX8_isAkin cX8_isAkin 6 (some .boolean) 4 93 G (injR SB) [.ref (G.2.2 1042), .int xv1, .int xv2, .int xv3] S (fun r u => k r ∧ u = S) :=
  cn_body (by decide +kernel) (Nat.le_of_ble_eq_true rfl) (fun p e s m args below meth c ls C hw hl => uX8_isAkin_0 C hw va_S.rf xt1 xt2 xt3 (lv_sub hl [0, 1, 2, 3] rfl) h)
set_option maxHeartbeats 4000000 in
set_option maxRecDepth 10000 in
theorem uX8_findOver_172 {p : Program} {l : Launch} {e : Env} {s : State} {m : MethodId} {args : Array Value} {below : List Frame} {meth : Method} {c : Code} {G : GG} {SB : St} (C : Cx p s m args meth c G RX8 cX8_findOver 6 none) {S : St} {H : Heap} {locs : List Loc} {ls : Array Slot} {P13 : Int → St → Prop} {P67 : Int → St → Prop} {k : St → Prop} (hw : Wd G ((injR SB) S) H) (hS : va_S (AG G) s.heap H locs) {xv1 : Int32} {x1 : Int} (xt1 : xv1.toInt = x1) {xv2 : Int32} {x2 : Int} (xt2 : xv2.toInt = x2) {xv3 : Int32} {x3 : Int} (xt3 : xv3.toInt = x3) {xv4 : Int32} {x4 : Int} (xt4 : xv4.toInt = x4) {sv1 : Int32} {s1 : Int} (st1 : sv1.toInt = s1) {sv2 : Int32} {s2 : Int} (st2 : sv2.toInt = s2) (hl : lv_has ls 6 [(0, .ref (G.2.2 1042)), (1, .int xv1), (2, .int xv2), (3, .int xv3), (4, .int xv4)]) (hP13 : ∀ {H : Heap} {locs : List Loc} {ls : Array Slot} {Sy : St} {yv3 : Int32} {y3 : Int}, yv3.toInt = y3 → Wd G ((injR SB) Sy) H → va_S (AG G) s.heap H locs → lv_has ls 6 [(0, .ref (G.2.2 1042)), (1, .int xv1), (2, .int xv2), (3, .int yv3)] → P13 y3 Sy → W p l e (rmF 5 118) s m args below meth c H locs 0 0 (MQ below (QcV G (injR SB) k) args s 0 0 (AG G)) (F0 m 13 ls [])) (hP67 : ∀ {H : Heap} {locs : List Loc} {ls : Array Slot} {Sy : St} {yv4 : Int32} {y4 : Int}, yv4.toInt = y4 → Wd G ((injR SB) Sy) H → va_S (AG G) s.heap H locs → lv_has ls 6 [(0, .ref (G.2.2 1042)), (1, .int xv1), (2, .int xv2), (3, .int xv3), (4, .int yv4)] → P67 y4 Sy → W p l e (rmF 5 118) s m args below meth c H locs 0 0 (MQ below (QcV G (injR SB) k) args s 0 0 (AG G)) (F0 m 67 ls [])) (h : wX8_findOver_172 S x1 x2 x3 x4 s1 s2 P13 P67 k) : W p l e (rmF 5 118) s m args below meth c H locs 0 0 (MQ below (QcV G (injR SB) k) args s 0 0 (AG G)) (F0 m 172 ls [.int sv2, .int sv1, .ref (G.2.2 (1076))]) := by
  obtain ⟨b1, h⟩ := h
  obtain ⟨z1, h⟩ := h
  obtain ⟨S_1, e1⟩ : ∃ z : St, z = up S 34 s1 s2 := ⟨_, rfl⟩
  have h := h S_1 e1
  refine y_zast C hw hS (acr_43 SB) st1 st2 z1 b1 dX8_findOver_172 (fun H locs hw hS => ?_)
  have hw : Wd G ((injR SB) S_1) H := by rw [e1]; exact hw
  obtain ⟨x_2, e2⟩ : ∃ z : Int, z = w32 (x4 + (-1)) := ⟨_, rfl⟩
  have h := h x_2 e2
  obtain ⟨v2, t2, g2⟩ : ∃ z : Int32, z.toInt = x_2 ∧ xv4 + Int32.ofInt (-1) = z := ⟨_, (ti_inc xt4 ⟨by decide, by decide⟩).trans e2.symm, rfl⟩
  refine lv_iinc (v := v2) (lv' := [(4, .int v2), (0, .ref (G.2.2 1042)), (1, .int xv1), (2, .int xv2), (3, .int xv3)]) C.1.1 C.1.2.1 dX8_findOver_173 hl (k := 4) rfl g2 (by decide) rfl (fun ls hl => ?_)
  refine lv_goto (tgt := 67) C.1.1 C.1.2.1 dX8_findOver_176 (by decide) ?_
  exact hP67 t2 hw hS (lv_sub hl [1, 2, 3, 4, 0] rfl) h
set_option maxHeartbeats 4000000 in
set_option maxRecDepth 10000 in
theorem uX8_findOver_171 {p : Program} {l : Launch} {e : Env} {s : State} {m : MethodId} {args : Array Value} {below : List Frame} {meth : Method} {c : Code} {G : GG} {SB : St} (C : Cx p s m args meth c G RX8 cX8_findOver 6 none) {S : St} {H : Heap} {locs : List Loc} {ls : Array Slot} {P13 : Int → St → Prop} {P67 : Int → St → Prop} {k : St → Prop} (hw : Wd G ((injR SB) S) H) (hS : va_S (AG G) s.heap H locs) {xv1 : Int32} {x1 : Int} (xt1 : xv1.toInt = x1) {xv2 : Int32} {x2 : Int} (xt2 : xv2.toInt = x2) {xv3 : Int32} {x3 : Int} (xt3 : xv3.toInt = x3) {xv4 : Int32} {x4 : Int} (xt4 : xv4.toInt = x4) {sv1 : Int32} {s1 : Int} (st1 : sv1.toInt = s1) (hl : lv_has ls 6 [(0, .ref (G.2.2 1042)), (1, .int xv1), (2, .int xv2), (3, .int xv3), (4, .int xv4)]) (hP13 : ∀ {H : Heap} {locs : List Loc} {ls : Array Slot} {Sy : St} {yv3 : Int32} {y3 : Int}, yv3.toInt = y3 → Wd G ((injR SB) Sy) H → va_S (AG G) s.heap H locs → lv_has ls 6 [(0, .ref (G.2.2 1042)), (1, .int xv1), (2, .int xv2), (3, .int yv3)] → P13 y3 Sy → W p l e (rmF 5 118) s m args below meth c H locs 0 0 (MQ below (QcV G (injR SB) k) args s 0 0 (AG G)) (F0 m 13 ls [])) (hP67 : ∀ {H : Heap} {locs : List Loc} {ls : Array Slot} {Sy : St} {yv4 : Int32} {y4 : Int}, yv4.toInt = y4 → Wd G ((injR SB) Sy) H → va_S (AG G) s.heap H locs → lv_has ls 6 [(0, .ref (G.2.2 1042)), (1, .int xv1), (2, .int xv2), (3, .int xv3), (4, .int yv4)] → P67 y4 Sy → W p l e (rmF 5 118) s m args below meth c H locs 0 0 (MQ below (QcV G (injR SB) k) args s 0 0 (AG G)) (F0 m 67 ls [])) (h : wX8_findOver_171 S x1 x2 x3 x4 s1 P13 P67 k) : W p l e (rmF 5 118) s m args below meth c H locs 0 0 (MQ below (QcV G (injR SB) k) args s 0 0 (AG G)) (F0 m 171 ls [.int sv1, .ref (G.2.2 (1076))]) := by
  refine y_iconst C dX8_findOver_171 ⟨by decide, by decide⟩ (fun v1 t1 => ?_)
  exact uX8_findOver_172 C hw hS xt1 xt2 xt3 xt4 st1 t1 (lv_sub hl [0, 1, 2, 3, 4] rfl) hP13 hP67 h
set_option maxHeartbeats 4000000 in
set_option maxRecDepth 10000 in
theorem uX8_findOver_134 {p : Program} {l : Launch} {e : Env} {s : State} {m : MethodId} {args : Array Value} {below : List Frame} {meth : Method} {c : Code} {G : GG} {SB : St} (C : Cx p s m args meth c G RX8 cX8_findOver 6 none) {S : St} {H : Heap} {locs : List Loc} {ls : Array Slot} {P13 : Int → St → Prop} {P67 : Int → St → Prop} {k : St → Prop} (hw : Wd G ((injR SB) S) H) (hS : va_S (AG G) s.heap H locs) {xv1 : Int32} {x1 : Int} (xt1 : xv1.toInt = x1) {xv2 : Int32} {x2 : Int} (xt2 : xv2.toInt = x2) {xv3 : Int32} {x3 : Int} (xt3 : xv3.toInt = x3) {xv4 : Int32} {x4 : Int} (xt4 : xv4.toInt = x4) {sv0 : Int32} {s0 : Int} (st0 : sv0.toInt = s0) (hl : lv_has ls 6 [(0, .ref (G.2.2 1042)), (1, .int xv1), (2, .int xv2), (3, .int xv3), (4, .int xv4)]) (hP13 : ∀ {H : Heap} {locs : List Loc} {ls : Array Slot} {Sy : St} {yv3 : Int32} {y3 : Int}, yv3.toInt = y3 → Wd G ((injR SB) Sy) H → va_S (AG G) s.heap H locs → lv_has ls 6 [(0, .ref (G.2.2 1042)), (1, .int xv1), (2, .int xv2), (3, .int yv3)] → P13 y3 Sy → W p l e (rmF 5 118) s m args below meth c H locs 0 0 (MQ below (QcV G (injR SB) k) args s 0 0 (AG G)) (F0 m 13 ls [])) (hP67 : ∀ {H : Heap} {locs : List Loc} {ls : Array Slot} {Sy : St} {yv4 : Int32} {y4 : Int}, yv4.toInt = y4 → Wd G ((injR SB) Sy) H → va_S (AG G) s.heap H locs → lv_has ls 6 [(0, .ref (G.2.2 1042)), (1, .int xv1), (2, .int xv2), (3, .int xv3), (4, .int yv4)] → P67 y4 Sy → W p l e (rmF 5 118) s m args below meth c H locs 0 0 (MQ below (QcV G (injR SB) k) args s 0 0 (AG G)) (F0 m 67 ls [])) (h : wX8_findOver_134 S x1 x2 x3 x4 s0 P13 P67 k) : W p l e (rmF 5 118) s m args below meth c H locs 0 0 (MQ below (QcV G (injR SB) k) args s 0 0 (AG G)) (F0 m 134 ls [.int sv0]) := by
  refine lv_istore (lv' := [(5, .int sv0), (0, .ref (G.2.2 1042)), (1, .int xv1), (2, .int xv2), (3, .int xv3), (4, .int xv4)]) C.1.1 C.1.2.1 dX8_findOver_134 hl (by decide) rfl (fun ls hl => ?_)
  refine lv_aload_n C.1.1 C.1.2.1 dX8_findOver_136 rfl (lv_at hl 1 rfl) ?_
  refine y_getA C fl_X8_140 hw (ocr SB) rfl (o := 34) rfl dX8_findOver_137 ?_
  refine y_bipush C dX8_findOver_140 ⟨by decide, by decide⟩ (fun v2 t2 => ?_)
  refine lv_aload_n C.1.1 C.1.2.1 dX8_findOver_142 rfl (lv_at hl 1 rfl) ?_
  refine lv_iload_n C.1.1 C.1.2.1 dX8_findOver_143 rfl (lv_at hl 4 rfl) ?_
  refine y_cVIp C (As := [.int xv3]) (rest := [.int v2, .ref (G.2.2 (1076))]) ml_X8_218 (kX8_m l G SB S xt3 h) (ocr SB) (T := TX8) (N := 60) rfl (by decide) ⟨(Nat.le_of_ble_eq_true rfl), (Nat.le_of_ble_eq_true rfl)⟩ hl.1 rfl rfl (Nat.le_of_ble_eq_true rfl) hw hS dX8_findOver_144 (fun v3 x_3 H locs t3 h hw hS => ?_)
  refine y_imul C t2 t3 dX8_findOver_147 (fun v4 t4 => ?_)
  refine lv_iload C.1.1 C.1.2.1 dX8_findOver_148 (lv_at hl 5 rfl) ?_
  refine y_iadd C t4 xt4 dX8_findOver_150 (fun v5 t5 => ?_)
  refine lv_iload C.1.1 C.1.2.1 dX8_findOver_151 (lv_at hl 0 rfl) ?_
  refine y_if_eq C st0 dX8_findOver_153 (tgt := 171) (by decide) (fun c6 => ?_) (fun c6 => ?_)
  · have h := h.1 c6
    exact uX8_findOver_171 C hw hS xt1 xt2 xt3 xt4 t5 (lv_sub hl [1, 2, 3, 4, 5] rfl) hP13 hP67 h
  · have h := h.2 c6
    refine lv_aload_n C.1.1 C.1.2.1 dX8_findOver_156 rfl (lv_at hl 1 rfl) ?_
    refine lv_iload_n C.1.1 C.1.2.1 dX8_findOver_157 rfl (lv_at hl 2 rfl) ?_
    refine lv_iload_n C.1.1 C.1.2.1 dX8_findOver_158 rfl (lv_at hl 4 rfl) ?_
    refine lv_iload C.1.1 C.1.2.1 dX8_findOver_159 (lv_at hl 5 rfl) ?_
    refine y_cVIp C (As := [.int xv1, .int xv3, .int xv4]) (rest := [.int v5, .ref (G.2.2 (1076))]) ml_X8_332 (kX8_isAkin l G SB S xt1 xt3 xt4 h) (ocr SB) (T := TX8) (N := 60) rfl (by decide) ⟨(Nat.le_of_ble_eq_true rfl), (Nat.le_of_ble_eq_true rfl)⟩ hl.1 rfl rfl (Nat.le_of_ble_eq_true rfl) hw hS dX8_findOver_161 (fun v7 x_7 H locs t7 h hw hS => ?_)
    refine y_if_eq C t7 dX8_findOver_164 (tgt := 171) (by decide) (fun c8 => ?_) (fun c8 => ?_)
    · have h := h.1 c8
      exact uX8_findOver_171 C hw hS xt1 xt2 xt3 xt4 t5 (lv_sub hl [1, 2, 3, 4, 5] rfl) hP13 hP67 h
    · have h := h.2 c8
      refine y_iconst C dX8_findOver_167 ⟨by decide, by decide⟩ (fun v9 t9 => ?_)
      refine lv_goto (tgt := 172) C.1.1 C.1.2.1 dX8_findOver_168 (by decide) ?_
      exact uX8_findOver_172 C hw hS xt1 xt2 xt3 xt4 t5 t9 (lv_sub hl [1, 2, 3, 4, 5] rfl) hP13 hP67 h
set_option maxHeartbeats 4000000 in
set_option maxRecDepth 10000 in
theorem uX8_findOver_133 {p : Program} {l : Launch} {e : Env} {s : State} {m : MethodId} {args : Array Value} {below : List Frame} {meth : Method} {c : Code} {G : GG} {SB : St} (C : Cx p s m args meth c G RX8 cX8_findOver 6 none) {S : St} {H : Heap} {locs : List Loc} {ls : Array Slot} {P13 : Int → St → Prop} {P67 : Int → St → Prop} {k : St → Prop} (hw : Wd G ((injR SB) S) H) (hS : va_S (AG G) s.heap H locs) {xv1 : Int32} {x1 : Int} (xt1 : xv1.toInt = x1) {xv2 : Int32} {x2 : Int} (xt2 : xv2.toInt = x2) {xv3 : Int32} {x3 : Int} (xt3 : xv3.toInt = x3) {xv4 : Int32} {x4 : Int} (xt4 : xv4.toInt = x4) (hl : lv_has ls 6 [(0, .ref (G.2.2 1042)), (1, .int xv1), (2, .int xv2), (3, .int xv3), (4, .int xv4)]) (hP13 : ∀ {H : Heap} {locs : List Loc} {ls : Array Slot} {Sy : St} {yv3 : Int32} {y3 : Int}, yv3.toInt = y3 → Wd G ((injR SB) Sy) H → va_S (AG G) s.heap H locs → lv_has ls 6 [(0, .ref (G.2.2 1042)), (1, .int xv1), (2, .int xv2), (3, .int yv3)] → P13 y3 Sy → W p l e (rmF 5 118) s m args below meth c H locs 0 0 (MQ below (QcV G (injR SB) k) args s 0 0 (AG G)) (F0 m 13 ls [])) (hP67 : ∀ {H : Heap} {locs : List Loc} {ls : Array Slot} {Sy : St} {yv4 : Int32} {y4 : Int}, yv4.toInt = y4 → Wd G ((injR SB) Sy) H → va_S (AG G) s.heap H locs → lv_has ls 6 [(0, .ref (G.2.2 1042)), (1, .int xv1), (2, .int xv2), (3, .int xv3), (4, .int yv4)] → P67 y4 Sy → W p l e (rmF 5 118) s m args below meth c H locs 0 0 (MQ below (QcV G (injR SB) k) args s 0 0 (AG G)) (F0 m 67 ls [])) (h : wX8_findOver_133 S x1 x2 x3 x4 P13 P67 k) : W p l e (rmF 5 118) s m args below meth c H locs 0 0 (MQ below (QcV G (injR SB) k) args s 0 0 (AG G)) (F0 m 133 ls []) := by
  refine y_iconst C dX8_findOver_133 ⟨by decide, by decide⟩ (fun v1 t1 => ?_)
  exact uX8_findOver_134 C hw hS xt1 xt2 xt3 xt4 t1 (lv_sub hl [0, 1, 2, 3, 4] rfl) hP13 hP67 h
set_option maxHeartbeats 4000000 in
set_option maxRecDepth 10000 in
theorem uX8_findOver_67_b {p : Program} {l : Launch} {e : Env} {s : State} {m : MethodId} {args : Array Value} {below : List Frame} {meth : Method} {c : Code} {G : GG} {SB : St} (C : Cx p s m args meth c G RX8 cX8_findOver 6 none) {S : St} {H : Heap} {locs : List Loc} {ls : Array Slot} {P13 : Int → St → Prop} {P67 : Int → St → Prop} {k : St → Prop} (hw : Wd G ((injR SB) S) H) (hS : va_S (AG G) s.heap H locs) {xv1 : Int32} {x1 : Int} (xt1 : xv1.toInt = x1) {xv2 : Int32} {x2 : Int} (xt2 : xv2.toInt = x2) {xv3 : Int32} {x3 : Int} (xt3 : xv3.toInt = x3) {xv4 : Int32} {x4 : Int} (xt4 : xv4.toInt = x4) (hl : lv_has ls 6 [(0, .ref (G.2.2 1042)), (1, .int xv1), (2, .int xv2), (3, .int xv3), (4, .int xv4)]) (hP13 : ∀ {H : Heap} {locs : List Loc} {ls : Array Slot} {Sy : St} {yv3 : Int32} {y3 : Int}, yv3.toInt = y3 → Wd G ((injR SB) Sy) H → va_S (AG G) s.heap H locs → lv_has ls 6 [(0, .ref (G.2.2 1042)), (1, .int xv1), (2, .int xv2), (3, .int yv3)] → P13 y3 Sy → W p l e (rmF 5 118) s m args below meth c H locs 0 0 (MQ below (QcV G (injR SB) k) args s 0 0 (AG G)) (F0 m 13 ls [])) (hP67 : ∀ {H : Heap} {locs : List Loc} {ls : Array Slot} {Sy : St} {yv4 : Int32} {y4 : Int}, yv4.toInt = y4 → Wd G ((injR SB) Sy) H → va_S (AG G) s.heap H locs → lv_has ls 6 [(0, .ref (G.2.2 1042)), (1, .int xv1), (2, .int xv2), (3, .int xv3), (4, .int yv4)] → P67 y4 Sy → W p l e (rmF 5 118) s m args below meth c H locs 0 0 (MQ below (QcV G (injR SB) k) args s 0 0 (AG G)) (F0 m 67 ls [])) (h : wX8_findOver_67_b S x1 x2 x3 x4 P13 P67 k) : W p l e (rmF 5 118) s m args below meth c H locs 0 0 (MQ below (QcV G (injR SB) k) args s 0 0 (AG G)) (F0 m 67 ls []) := by
  refine lv_iload C.1.1 C.1.2.1 dX8_findOver_67 (lv_at hl 4 rfl) ?_
  refine y_if_lt C xt4 dX8_findOver_69 (tgt := 179) (by decide) (fun c1 => ?_) (fun c1 => ?_)
  · have h := h.1 c1
    obtain ⟨x_2, e2⟩ : ∃ z : Int, z = w32 (x3 + 1) := ⟨_, rfl⟩
    have h := h x_2 e2
    obtain ⟨v2, t2, g2⟩ : ∃ z : Int32, z.toInt = x_2 ∧ xv3 + Int32.ofInt 1 = z := ⟨_, (ti_inc xt3 ⟨by decide, by decide⟩).trans e2.symm, rfl⟩
    refine lv_iinc (v := v2) (lv' := [(3, .int v2), (0, .ref (G.2.2 1042)), (1, .int xv1), (2, .int xv2), (4, .int xv4)]) C.1.1 C.1.2.1 dX8_findOver_179 hl (k := 3) rfl g2 (by decide) rfl (fun ls hl => ?_)
    refine lv_goto (tgt := 13) C.1.1 C.1.2.1 dX8_findOver_182 (by decide) ?_
    exact hP13 t2 hw hS (lv_sub hl [1, 2, 3, 0] rfl) h
  · have h := h.2 c1
    refine lv_aload_n C.1.1 C.1.2.1 dX8_findOver_72 rfl (lv_at hl 0 rfl) ?_
    refine y_getA C fl_X8_103 hw (ocr SB) rfl (o := 22) rfl dX8_findOver_73 ?_
    refine y_bipush C dX8_findOver_76 ⟨by decide, by decide⟩ (fun v4 t4 => ?_)
    refine lv_aload_n C.1.1 C.1.2.1 dX8_findOver_78 rfl (lv_at hl 0 rfl) ?_
    refine lv_iload_n C.1.1 C.1.2.1 dX8_findOver_79 rfl (lv_at hl 1 rfl) ?_
    refine y_cVIp C (As := [.int xv1]) (rest := [.int v4, .ref (G.2.2 (1064))]) ml_X8_214 (kX8_t l G SB S xt1 h) (ocr SB) (T := TX8) (N := 60) rfl (by decide) ⟨(Nat.le_of_ble_eq_true rfl), (Nat.le_of_ble_eq_true rfl)⟩ hl.1 rfl rfl (Nat.le_of_ble_eq_true rfl) hw hS dX8_findOver_80 (fun v5 x_5 H locs t5 h hw hS => ?_)
    refine y_imul C t4 t5 dX8_findOver_83 (fun v6 t6 => ?_)
    refine lv_aload_n C.1.1 C.1.2.1 dX8_findOver_84 rfl (lv_at hl 0 rfl) ?_
    refine y_getA C fl_X8_122 hw (ocr SB) rfl (o := 28) rfl dX8_findOver_85 ?_
    refine lv_aload_n C.1.1 C.1.2.1 dX8_findOver_88 rfl (lv_at hl 0 rfl) ?_
    refine lv_iload C.1.1 C.1.2.1 dX8_findOver_89 (lv_at hl 4 rfl) ?_
    refine y_cVIp C (As := [.int xv4]) (rest := [.ref (G.2.2 (1070)), .int v6, .ref (G.2.2 (1064))]) ml_X8_218 (kX8_m l G SB S xt4 h) (ocr SB) (T := TX8) (N := 60) rfl (by decide) ⟨(Nat.le_of_ble_eq_true rfl), (Nat.le_of_ble_eq_true rfl)⟩ hl.1 rfl rfl (Nat.le_of_ble_eq_true rfl) hw hS dX8_findOver_91 (fun v8 x_8 H locs t8 h hw hS => ?_)
    obtain ⟨b9, h⟩ := h
    refine y_iald C hw (acr_37 SB) t8 b9 dX8_findOver_94 (fun v9 t9 => ?_)
    refine y_iadd C t6 t9 dX8_findOver_95 (fun v10 t10 => ?_)
    obtain ⟨b11, h⟩ := h
    refine y_zald C hw (acr_31 SB) t10 b11 dX8_findOver_96 (fun v11 t11 => ?_)
    refine y_if_eq C t11 dX8_findOver_97 (tgt := 133) (by decide) (fun c12 => ?_) (fun c12 => ?_)
    · have h := h.1 c12
      exact uX8_findOver_133 C hw hS xt1 xt2 xt3 xt4 (lv_sub hl [0, 1, 2, 3, 4] rfl) hP13 hP67 h
    · have h := h.2 c12
      refine lv_aload_n C.1.1 C.1.2.1 dX8_findOver_100 rfl (lv_at hl 0 rfl) ?_
      refine y_getA C fl_X8_131 hw (ocr SB) rfl (o := 31) rfl dX8_findOver_101 ?_
      refine lv_aload_n C.1.1 C.1.2.1 dX8_findOver_104 rfl (lv_at hl 0 rfl) ?_
      refine lv_iload_n C.1.1 C.1.2.1 dX8_findOver_105 rfl (lv_at hl 3 rfl) ?_
      refine y_cVIp C (As := [.int xv3]) (rest := [.ref (G.2.2 (1073))]) ml_X8_218 (kX8_m l G SB S xt3 h) (ocr SB) (T := TX8) (N := 60) rfl (by decide) ⟨(Nat.le_of_ble_eq_true rfl), (Nat.le_of_ble_eq_true rfl)⟩ hl.1 rfl rfl (Nat.le_of_ble_eq_true rfl) hw hS dX8_findOver_106 (fun v14 x_14 H locs t14 h hw hS => ?_)
      obtain ⟨b15, h⟩ := h
      refine y_iald C hw (acr_40 SB) t14 b15 dX8_findOver_109 (fun v15 t15 => ?_)
      refine y_iconst C dX8_findOver_110 ⟨by decide, by decide⟩ (fun v16 t16 => ?_)
      refine y_icmp_eq C t15 t16 dX8_findOver_111 (tgt := 133) (by decide) (fun c17 => ?_) (fun c17 => ?_)
      · have h := h.1 c17
        exact uX8_findOver_133 C hw hS xt1 xt2 xt3 xt4 (lv_sub hl [0, 1, 2, 3, 4] rfl) hP13 hP67 h
      · have h := h.2 c17
        refine lv_aload_n C.1.1 C.1.2.1 dX8_findOver_114 rfl (lv_at hl 0 rfl) ?_
        refine y_getA C fl_X8_131 hw (ocr SB) rfl (o := 31) rfl dX8_findOver_115 ?_
        refine lv_aload_n C.1.1 C.1.2.1 dX8_findOver_118 rfl (lv_at hl 0 rfl) ?_
        refine lv_iload C.1.1 C.1.2.1 dX8_findOver_119 (lv_at hl 4 rfl) ?_
        refine y_cVIp C (As := [.int xv4]) (rest := [.ref (G.2.2 (1073))]) ml_X8_218 (kX8_m l G SB S xt4 h) (ocr SB) (T := TX8) (N := 60) rfl (by decide) ⟨(Nat.le_of_ble_eq_true rfl), (Nat.le_of_ble_eq_true rfl)⟩ hl.1 rfl rfl (Nat.le_of_ble_eq_true rfl) hw hS dX8_findOver_121 (fun v19 x_19 H locs t19 h hw hS => ?_)
        obtain ⟨b20, h⟩ := h
        refine y_iald C hw (acr_40 SB) t19 b20 dX8_findOver_124 (fun v20 t20 => ?_)
        refine y_iconst C dX8_findOver_125 ⟨by decide, by decide⟩ (fun v21 t21 => ?_)
        refine y_icmp_eq C t20 t21 dX8_findOver_126 (tgt := 133) (by decide) (fun c22 => ?_) (fun c22 => ?_)
        · have h := h.1 c22
          exact uX8_findOver_133 C hw hS xt1 xt2 xt3 xt4 (lv_sub hl [0, 1, 2, 3, 4] rfl) hP13 hP67 h
        · have h := h.2 c22
          refine y_iconst C dX8_findOver_129 ⟨by decide, by decide⟩ (fun v23 t23 => ?_)
          refine lv_goto (tgt := 134) C.1.1 C.1.2.1 dX8_findOver_130 (by decide) ?_
          exact uX8_findOver_134 C hw hS xt1 xt2 xt3 xt4 t23 (lv_sub hl [0, 1, 2, 3, 4] rfl) hP13 hP67 h
set_option maxHeartbeats 4000000 in
set_option maxRecDepth 10000 in
theorem uX8_findOver_67 {p : Program} {l : Launch} {e : Env} {s : State} {m : MethodId} {args : Array Value} {below : List Frame} {meth : Method} {c : Code} {G : GG} {SB : St} (C : Cx p s m args meth c G RX8 cX8_findOver 6 none) {S : St} {H : Heap} {locs : List Loc} {ls : Array Slot} {P13 : Int → St → Prop} {k : St → Prop} (hw : Wd G ((injR SB) S) H) (hS : va_S (AG G) s.heap H locs) {xv1 : Int32} {x1 : Int} (xt1 : xv1.toInt = x1) {xv2 : Int32} {x2 : Int} (xt2 : xv2.toInt = x2) {xv3 : Int32} {x3 : Int} (xt3 : xv3.toInt = x3) {xv4 : Int32} {x4 : Int} (xt4 : xv4.toInt = x4) (hl : lv_has ls 6 [(0, .ref (G.2.2 1042)), (1, .int xv1), (2, .int xv2), (3, .int xv3), (4, .int xv4)]) (hP13 : ∀ {H : Heap} {locs : List Loc} {ls : Array Slot} {Sy : St} {yv3 : Int32} {y3 : Int}, yv3.toInt = y3 → Wd G ((injR SB) Sy) H → va_S (AG G) s.heap H locs → lv_has ls 6 [(0, .ref (G.2.2 1042)), (1, .int xv1), (2, .int xv2), (3, .int yv3)] → P13 y3 Sy → W p l e (rmF 5 118) s m args below meth c H locs 0 0 (MQ below (QcV G (injR SB) k) args s 0 0 (AG G)) (F0 m 13 ls [])) (h : wX8_findOver_67 S x1 x2 x3 x4 P13 k) : W p l e (rmF 5 118) s m args below meth c H locs 0 0 (MQ below (QcV G (injR SB) k) args s 0 0 (AG G)) (F0 m 67 ls []) := by
  have key : ∀ (n : Nat) {H : Heap} {locs : List Loc} {ls : Array Slot} {S : St} {xv4 : Int32} {x4 : Int}, xv4.toInt = x4 → Wd G ((injR SB) S) H → va_S (AG G) s.heap H locs → lv_has ls 6 [(0, .ref (G.2.2 1042)), (1, .int xv1), (2, .int xv2), (3, .int xv3), (4, .int xv4)] → itP (fun (P : Int × St → Prop) (a : Int × St) => wX8_findOver_67_b a.2 x1 x2 x3 a.1 P13 (fun b0 b1 => P (b0, b1)) k) n (x4, S) → W p l e (rmF 5 118) s m args below meth c H locs 0 0 (MQ below (QcV G (injR SB) k) args s 0 0 (AG G)) (F0 m 67 ls []) := by
    intro n
    induction n with
    | zero => intro H locs ls S xv4 x4 xt4 hw hS hl h; exact h.elim
    | succ n ih =>
      intro H locs ls S xv4 x4 xt4 hw hS hl h
      exact uX8_findOver_67_b C hw hS xt1 xt2 xt3 xt4 hl hP13 (P67 := fun b0 b1 => itP _ n (b0, b1)) (fun q0 hw hS hl h => ih q0 hw hS hl h) h
  obtain ⟨n, hn⟩ := h
  exact key n xt4 hw hS hl hn
set_option maxHeartbeats 4000000 in
set_option maxRecDepth 10000 in
theorem uX8_findOver_32_b {p : Program} {l : Launch} {e : Env} {s : State} {m : MethodId} {args : Array Value} {below : List Frame} {meth : Method} {c : Code} {G : GG} {SB : St} (C : Cx p s m args meth c G RX8 cX8_findOver 6 none) {S : St} {H : Heap} {locs : List Loc} {ls : Array Slot} {P13 : Int → St → Prop} {P32 : Int → St → Prop} {k : St → Prop} (hw : Wd G ((injR SB) S) H) (hS : va_S (AG G) s.heap H locs) {xv1 : Int32} {x1 : Int} (xt1 : xv1.toInt = x1) {xv2 : Int32} {x2 : Int} (xt2 : xv2.toInt = x2) {xv3 : Int32} {x3 : Int} (xt3 : xv3.toInt = x3) {xv4 : Int32} {x4 : Int} (xt4 : xv4.toInt = x4) (hl : lv_has ls 6 [(0, .ref (G.2.2 1042)), (1, .int xv1), (2, .int xv2), (3, .int xv3), (4, .int xv4)]) (hP13 : ∀ {H : Heap} {locs : List Loc} {ls : Array Slot} {Sy : St} {yv3 : Int32} {y3 : Int}, yv3.toInt = y3 → Wd G ((injR SB) Sy) H → va_S (AG G) s.heap H locs → lv_has ls 6 [(0, .ref (G.2.2 1042)), (1, .int xv1), (2, .int xv2), (3, .int yv3)] → P13 y3 Sy → W p l e (rmF 5 118) s m args below meth c H locs 0 0 (MQ below (QcV G (injR SB) k) args s 0 0 (AG G)) (F0 m 13 ls [])) (hP32 : ∀ {H : Heap} {locs : List Loc} {ls : Array Slot} {Sy : St} {yv4 : Int32} {y4 : Int}, yv4.toInt = y4 → Wd G ((injR SB) Sy) H → va_S (AG G) s.heap H locs → lv_has ls 6 [(0, .ref (G.2.2 1042)), (1, .int xv1), (2, .int xv2), (3, .int xv3), (4, .int yv4)] → P32 y4 Sy → W p l e (rmF 5 118) s m args below meth c H locs 0 0 (MQ below (QcV G (injR SB) k) args s 0 0 (AG G)) (F0 m 32 ls [])) (h : wX8_findOver_32_b S x1 x2 x3 x4 P13 P32 k) : W p l e (rmF 5 118) s m args below meth c H locs 0 0 (MQ below (QcV G (injR SB) k) args s 0 0 (AG G)) (F0 m 32 ls []) := by
  refine lv_iload C.1.1 C.1.2.1 dX8_findOver_32 (lv_at hl 4 rfl) ?_
  refine y_bipush C dX8_findOver_34 ⟨by decide, by decide⟩ (fun v1 t1 => ?_)
  refine y_icmp_ge C xt4 t1 dX8_findOver_36 (tgt := 62) (by decide) (fun c2 => ?_) (fun c2 => ?_)
  · have h := h.1 c2
    refine lv_iload_n C.1.1 C.1.2.1 dX8_findOver_62 rfl (lv_at hl 2 rfl) ?_
    refine y_iconst C dX8_findOver_63 ⟨by decide, by decide⟩ (fun v3 t3 => ?_)
    refine y_isub C xt2 t3 dX8_findOver_64 (fun v4 t4 => ?_)
    obtain ⟨x_5, e5⟩ : ∃ z : Int, z = w32 (x2 - 1) := ⟨_, rfl⟩
    have h := h x_5 e5
    have t5 := t4.trans e5.symm
    refine lv_istore (lv' := [(4, .int v4), (0, .ref (G.2.2 1042)), (1, .int xv1), (2, .int xv2), (3, .int xv3)]) C.1.1 C.1.2.1 dX8_findOver_65 hl (by decide) rfl (fun ls hl => ?_)
    exact uX8_findOver_67 C hw hS xt1 xt2 xt3 t5 (lv_sub hl [1, 2, 3, 4, 0] rfl) hP13 h
  · have h := h.2 c2
    refine lv_aload_n C.1.1 C.1.2.1 dX8_findOver_39 rfl (lv_at hl 0 rfl) ?_
    refine y_getA C fl_X8_140 hw (ocr SB) rfl (o := 34) rfl dX8_findOver_40 ?_
    refine y_bipush C dX8_findOver_43 ⟨by decide, by decide⟩ (fun v7 t7 => ?_)
    refine lv_aload_n C.1.1 C.1.2.1 dX8_findOver_45 rfl (lv_at hl 0 rfl) ?_
    refine lv_iload_n C.1.1 C.1.2.1 dX8_findOver_46 rfl (lv_at hl 3 rfl) ?_
    refine y_cVIp C (As := [.int xv3]) (rest := [.int v7, .ref (G.2.2 (1076))]) ml_X8_218 (kX8_m l G SB S xt3 h) (ocr SB) (T := TX8) (N := 60) rfl (by decide) ⟨(Nat.le_of_ble_eq_true rfl), (Nat.le_of_ble_eq_true rfl)⟩ hl.1 rfl rfl (Nat.le_of_ble_eq_true rfl) hw hS dX8_findOver_47 (fun v8 x_8 H locs t8 h hw hS => ?_)
    refine y_imul C t7 t8 dX8_findOver_50 (fun v9 t9 => ?_)
    refine lv_iload C.1.1 C.1.2.1 dX8_findOver_51 (lv_at hl 4 rfl) ?_
    refine y_iadd C t9 xt4 dX8_findOver_53 (fun v10 t10 => ?_)
    refine y_iconst C dX8_findOver_54 ⟨by decide, by decide⟩ (fun v11 t11 => ?_)
    obtain ⟨b12, h⟩ := h
    obtain ⟨S_12, e12⟩ : ∃ z : St, z = up S 34 (w32 (w32 (120 * x_8) + x4)) 0 := ⟨_, rfl⟩
    have h := h S_12 e12
    refine y_zast C hw hS (acr_43 SB) t10 t11 (Or.inl rfl) b12 dX8_findOver_55 (fun H locs hw hS => ?_)
    have hw : Wd G ((injR SB) S_12) H := by rw [e12]; exact hw
    obtain ⟨x_13, e13⟩ : ∃ z : Int, z = w32 (x4 + 1) := ⟨_, rfl⟩
    have h := h x_13 e13
    obtain ⟨v13, t13, g13⟩ : ∃ z : Int32, z.toInt = x_13 ∧ xv4 + Int32.ofInt 1 = z := ⟨_, (ti_inc xt4 ⟨by decide, by decide⟩).trans e13.symm, rfl⟩
    refine lv_iinc (v := v13) (lv' := [(4, .int v13), (0, .ref (G.2.2 1042)), (1, .int xv1), (2, .int xv2), (3, .int xv3)]) C.1.1 C.1.2.1 dX8_findOver_56 hl (k := 4) rfl g13 (by decide) rfl (fun ls hl => ?_)
    refine lv_goto (tgt := 32) C.1.1 C.1.2.1 dX8_findOver_59 (by decide) ?_
    exact hP32 t13 hw hS (lv_sub hl [1, 2, 3, 4, 0] rfl) h
set_option maxHeartbeats 4000000 in
set_option maxRecDepth 10000 in
theorem uX8_findOver_32 {p : Program} {l : Launch} {e : Env} {s : State} {m : MethodId} {args : Array Value} {below : List Frame} {meth : Method} {c : Code} {G : GG} {SB : St} (C : Cx p s m args meth c G RX8 cX8_findOver 6 none) {S : St} {H : Heap} {locs : List Loc} {ls : Array Slot} {P13 : Int → St → Prop} {k : St → Prop} (hw : Wd G ((injR SB) S) H) (hS : va_S (AG G) s.heap H locs) {xv1 : Int32} {x1 : Int} (xt1 : xv1.toInt = x1) {xv2 : Int32} {x2 : Int} (xt2 : xv2.toInt = x2) {xv3 : Int32} {x3 : Int} (xt3 : xv3.toInt = x3) {xv4 : Int32} {x4 : Int} (xt4 : xv4.toInt = x4) (hl : lv_has ls 6 [(0, .ref (G.2.2 1042)), (1, .int xv1), (2, .int xv2), (3, .int xv3), (4, .int xv4)]) (hP13 : ∀ {H : Heap} {locs : List Loc} {ls : Array Slot} {Sy : St} {yv3 : Int32} {y3 : Int}, yv3.toInt = y3 → Wd G ((injR SB) Sy) H → va_S (AG G) s.heap H locs → lv_has ls 6 [(0, .ref (G.2.2 1042)), (1, .int xv1), (2, .int xv2), (3, .int yv3)] → P13 y3 Sy → W p l e (rmF 5 118) s m args below meth c H locs 0 0 (MQ below (QcV G (injR SB) k) args s 0 0 (AG G)) (F0 m 13 ls [])) (h : wX8_findOver_32 S x1 x2 x3 x4 P13 k) : W p l e (rmF 5 118) s m args below meth c H locs 0 0 (MQ below (QcV G (injR SB) k) args s 0 0 (AG G)) (F0 m 32 ls []) := by
  have key : ∀ (n : Nat) {H : Heap} {locs : List Loc} {ls : Array Slot} {S : St} {xv4 : Int32} {x4 : Int}, xv4.toInt = x4 → Wd G ((injR SB) S) H → va_S (AG G) s.heap H locs → lv_has ls 6 [(0, .ref (G.2.2 1042)), (1, .int xv1), (2, .int xv2), (3, .int xv3), (4, .int xv4)] → itP (fun (P : Int × St → Prop) (a : Int × St) => wX8_findOver_32_b a.2 x1 x2 x3 a.1 P13 (fun b0 b1 => P (b0, b1)) k) n (x4, S) → W p l e (rmF 5 118) s m args below meth c H locs 0 0 (MQ below (QcV G (injR SB) k) args s 0 0 (AG G)) (F0 m 32 ls []) := by
    intro n
    induction n with
    | zero => intro H locs ls S xv4 x4 xt4 hw hS hl h; exact h.elim
    | succ n ih =>
      intro H locs ls S xv4 x4 xt4 hw hS hl h
      exact uX8_findOver_32_b C hw hS xt1 xt2 xt3 xt4 hl hP13 (P32 := fun b0 b1 => itP _ n (b0, b1)) (fun q0 hw hS hl h => ih q0 hw hS hl h) h
  obtain ⟨n, hn⟩ := h
  exact key n xt4 hw hS hl hn
set_option maxHeartbeats 4000000 in
set_option maxRecDepth 10000 in
theorem uX8_findOver_13_b {p : Program} {l : Launch} {e : Env} {s : State} {m : MethodId} {args : Array Value} {below : List Frame} {meth : Method} {c : Code} {G : GG} {SB : St} (C : Cx p s m args meth c G RX8 cX8_findOver 6 none) {S : St} {H : Heap} {locs : List Loc} {ls : Array Slot}  {P13 : Int → St → Prop} {k : St → Prop} (hw : Wd G ((injR SB) S) H) (hS : va_S (AG G) s.heap H locs) {xv1 : Int32} {x1 : Int} (xt1 : xv1.toInt = x1) {xv2 : Int32} {x2 : Int} (xt2 : xv2.toInt = x2) {xv3 : Int32} {x3 : Int} (xt3 : xv3.toInt = x3) (hl : lv_has ls 6 [(0, .ref (G.2.2 1042)), (1, .int xv1), (2, .int xv2), (3, .int xv3)])  (hP13 : ∀ {H : Heap} {locs : List Loc} {ls : Array Slot} {Sy : St} {yv3 : Int32} {y3 : Int}, yv3.toInt = y3 → Wd G ((injR SB) Sy) H → va_S (AG G) s.heap H locs → lv_has ls 6 [(0, .ref (G.2.2 1042)), (1, .int xv1), (2, .int xv2), (3, .int yv3)] → P13 y3 Sy → W p l e (rmF 5 118) s m args below meth c H locs 0 0 (MQ below (QcV G (injR SB) k) args s 0 0 (AG G)) (F0 m 13 ls [])) (h : wX8_findOver_13_b S x1 x2 x3 P13 k) : W p l e (rmF 5 118) s m args below meth c H locs 0 0 (MQ below (QcV G (injR SB) k) args s 0 0 (AG G)) (F0 m 13 ls []) := by
  refine lv_iload_n C.1.1 C.1.2.1 dX8_findOver_13 rfl (lv_at hl 3 rfl) ?_
  refine lv_iload_n C.1.1 C.1.2.1 dX8_findOver_14 rfl (lv_at hl 2 rfl) ?_
  refine lv_aload_n C.1.1 C.1.2.1 dX8_findOver_15 rfl (lv_at hl 0 rfl) ?_
  refine y_getA C fl_X8_113 hw (ocr SB) rfl (o := 25) rfl dX8_findOver_16 ?_
  refine lv_aload_n C.1.1 C.1.2.1 dX8_findOver_19 rfl (lv_at hl 0 rfl) ?_
  refine lv_iload_n C.1.1 C.1.2.1 dX8_findOver_20 rfl (lv_at hl 1 rfl) ?_
  refine y_cVIp C (As := [.int xv1]) (rest := [.ref (G.2.2 (1067)), .int xv2, .int xv3]) ml_X8_214 (kX8_t l G SB S xt1 h) (ocr SB) (T := TX8) (N := 60) rfl (by decide) ⟨(Nat.le_of_ble_eq_true rfl), (Nat.le_of_ble_eq_true rfl)⟩ hl.1 rfl rfl (Nat.le_of_ble_eq_true rfl) hw hS dX8_findOver_21 (fun v2 x_2 H locs t2 h hw hS => ?_)
  obtain ⟨b3, h⟩ := h
  refine y_iald C hw (acr_34 SB) t2 b3 dX8_findOver_24 (fun v3 t3 => ?_)
  refine y_iadd C xt2 t3 dX8_findOver_25 (fun v4 t4 => ?_)
  refine y_icmp_ge C xt3 t4 dX8_findOver_26 (tgt := 185) (by decide) (fun c5 => ?_) (fun c5 => ?_)
  · have h := h.1 c5
    exact y_vret C hw hS h dX8_findOver_185
  · have h := h.2 c5
    refine y_iconst C dX8_findOver_29 ⟨by decide, by decide⟩ (fun v6 t6 => ?_)
    refine lv_istore (lv' := [(4, .int v6), (0, .ref (G.2.2 1042)), (1, .int xv1), (2, .int xv2), (3, .int xv3)]) C.1.1 C.1.2.1 dX8_findOver_30 hl (by decide) rfl (fun ls hl => ?_)
    exact uX8_findOver_32 C hw hS xt1 xt2 xt3 t6 (lv_sub hl [1, 2, 3, 4, 0] rfl) hP13 h
set_option maxHeartbeats 4000000 in
set_option maxRecDepth 10000 in
theorem uX8_findOver_13 {p : Program} {l : Launch} {e : Env} {s : State} {m : MethodId} {args : Array Value} {below : List Frame} {meth : Method} {c : Code} {G : GG} {SB : St} (C : Cx p s m args meth c G RX8 cX8_findOver 6 none) {S : St} {H : Heap} {locs : List Loc} {ls : Array Slot}  {k : St → Prop} (hw : Wd G ((injR SB) S) H) (hS : va_S (AG G) s.heap H locs) {xv1 : Int32} {x1 : Int} (xt1 : xv1.toInt = x1) {xv2 : Int32} {x2 : Int} (xt2 : xv2.toInt = x2) {xv3 : Int32} {x3 : Int} (xt3 : xv3.toInt = x3) (hl : lv_has ls 6 [(0, .ref (G.2.2 1042)), (1, .int xv1), (2, .int xv2), (3, .int xv3)])  (h : wX8_findOver_13 S x1 x2 x3 k) : W p l e (rmF 5 118) s m args below meth c H locs 0 0 (MQ below (QcV G (injR SB) k) args s 0 0 (AG G)) (F0 m 13 ls []) := by
  have key : ∀ (n : Nat) {H : Heap} {locs : List Loc} {ls : Array Slot} {S : St} {xv3 : Int32} {x3 : Int}, xv3.toInt = x3 → Wd G ((injR SB) S) H → va_S (AG G) s.heap H locs → lv_has ls 6 [(0, .ref (G.2.2 1042)), (1, .int xv1), (2, .int xv2), (3, .int xv3)] → itP (fun (P : Int × St → Prop) (a : Int × St) => wX8_findOver_13_b a.2 x1 x2 a.1 (fun b0 b1 => P (b0, b1)) k) n (x3, S) → W p l e (rmF 5 118) s m args below meth c H locs 0 0 (MQ below (QcV G (injR SB) k) args s 0 0 (AG G)) (F0 m 13 ls []) := by
    intro n
    induction n with
    | zero => intro H locs ls S xv3 x3 xt3 hw hS hl h; exact h.elim
    | succ n ih =>
      intro H locs ls S xv3 x3 xt3 hw hS hl h
      exact uX8_findOver_13_b C hw hS xt1 xt2 xt3 hl  (P13 := fun b0 b1 => itP _ n (b0, b1)) (fun q0 hw hS hl h => ih q0 hw hS hl h) h
  obtain ⟨n, hn⟩ := h
  exact key n xt3 hw hS hl hn
set_option maxHeartbeats 4000000 in
set_option maxRecDepth 10000 in
theorem uX8_findOver_0 {p : Program} {l : Launch} {e : Env} {s : State} {m : MethodId} {args : Array Value} {below : List Frame} {meth : Method} {c : Code} {G : GG} {SB : St} (C : Cx p s m args meth c G RX8 cX8_findOver 6 none) {S : St} {H : Heap} {locs : List Loc} {ls : Array Slot}  {k : St → Prop} (hw : Wd G ((injR SB) S) H) (hS : va_S (AG G) s.heap H locs) {xv1 : Int32} {x1 : Int} (xt1 : xv1.toInt = x1) (hl : lv_has ls 6 [(0, .ref (G.2.2 1042)), (1, .int xv1)])  (h : wX8_findOver_0 S x1 k) : W p l e (rmF 5 118) s m args below meth c H locs 0 0 (MQ below (QcV G (injR SB) k) args s 0 0 (AG G)) (F0 m 0 ls []) := by
  refine lv_aload_n C.1.1 C.1.2.1 dX8_findOver_0 rfl (lv_at hl 0 rfl) ?_
  refine y_getA C fl_X8_110 hw (ocr SB) rfl (o := 24) rfl dX8_findOver_1 ?_
  refine lv_aload_n C.1.1 C.1.2.1 dX8_findOver_4 rfl (lv_at hl 0 rfl) ?_
  refine lv_iload_n C.1.1 C.1.2.1 dX8_findOver_5 rfl (lv_at hl 1 rfl) ?_
  refine y_cVIp C (As := [.int xv1]) (rest := [.ref (G.2.2 (1066))]) ml_X8_214 (kX8_t l G SB S xt1 h) (ocr SB) (T := TX8) (N := 60) rfl (by decide) ⟨(Nat.le_of_ble_eq_true rfl), (Nat.le_of_ble_eq_true rfl)⟩ hl.1 rfl rfl (Nat.le_of_ble_eq_true rfl) hw hS dX8_findOver_6 (fun v2 x_2 H locs t2 h hw hS => ?_)
  obtain ⟨b3, h⟩ := h
  refine y_iald C hw (acr_33 SB) t2 b3 dX8_findOver_9 (fun v3 t3 => ?_)
  obtain ⟨x_4, e4⟩ : ∃ z : Int, z = S 24 x_2 := ⟨_, rfl⟩
  have h := h x_4 e4
  have t4 := t3.trans e4.symm
  refine lv_istore_n (lv' := [(2, .int v3), (0, .ref (G.2.2 1042)), (1, .int xv1)]) C.1.1 C.1.2.1 dX8_findOver_10 rfl hl (by decide) rfl (fun ls hl => ?_)
  refine lv_iload_n C.1.1 C.1.2.1 dX8_findOver_11 rfl (lv_at hl 0 rfl) ?_
  refine lv_istore_n (lv' := [(3, .int v3), (2, .int v3), (0, .ref (G.2.2 1042)), (1, .int xv1)]) C.1.1 C.1.2.1 dX8_findOver_12 rfl hl (by decide) rfl (fun ls hl => ?_)
  exact uX8_findOver_13 C hw hS xt1 t4 t4 (lv_sub hl [2, 3, 1, 0] rfl)  h
theorem kX8_findOver (l : Launch) (G : GG) (SB S : St) {xv1 : Int32} {x1 : Int} (xt1 : xv1.toInt = x1) {k : St → Prop} (h : wX8_findOver S x1 k) : CnV l yX8_findOver cX8_findOver 6 none 5 118 G (injR SB) [.ref (G.2.2 1042), .int xv1] S k :=
  cn_body (by decide +kernel) (Nat.le_of_ble_eq_true rfl) (fun p e s m args below meth c ls C hw hl => uX8_findOver_0 C hw va_S.rf xt1 (lv_sub hl [0, 1] rfl) h)
set_option maxHeartbeats 4000000 in
set_option maxRecDepth 10000 in
theorem uX8_isNarrow_0 {p : Program} {l : Launch} {e : Env} {s : State} {m : MethodId} {args : Array Value} {below : List Frame} {meth : Method} {c : Code} {G : GG} {SB : St} (C : Cx p s m args meth c G RX8 cX8_isNarrow 7 (some .boolean)) {S : St} {H : Heap} {locs : List Loc} {ls : Array Slot}  {k : Int → Prop} (hw : Wd G ((injR SB) S) H) (hS : va_S (AG G) s.heap H locs) {xv1 : Int32} {x1 : Int} (xt1 : xv1.toInt = x1) {xv2 : Int32} {x2 : Int} (xt2 : xv2.toInt = x2) {xv3 : Int32} {x3 : Int} (xt3 : xv3.toInt = x3) (hl : lv_has ls 7 [(0, .ref (G.2.2 1042)), (1, .int xv1), (2, .int xv2), (3, .int xv3)])  (h : wX8_isNarrow_0 S x1 x2 x3 k) : W p l e (rmF 3 68) s m args below meth c H locs 0 0 (MQ below (QcI G (injR SB) (fun r u => k r ∧ u = S)) args s 0 0 (AG G)) (F0 m 0 ls []) := by
  refine lv_aload_n C.1.1 C.1.2.1 dX8_isNarrow_0 rfl (lv_at hl 0 rfl) ?_
  refine lv_iload_n C.1.1 C.1.2.1 dX8_isNarrow_1 rfl (lv_at hl 1 rfl) ?_
  refine lv_iload_n C.1.1 C.1.2.1 dX8_isNarrow_2 rfl (lv_at hl 2 rfl) ?_
  refine y_iconst C dX8_isNarrow_3 ⟨by decide, by decide⟩ (fun v1 t1 => ?_)
  refine y_cVIp C (As := [.int xv1, .int xv2, .int v1]) (rest := []) ml_X8_229 (kX8_kindSeen l G SB S xt1 xt2 t1 h) (ocr SB) (T := TX8) (N := 60) rfl (by decide) ⟨(Nat.le_of_ble_eq_true rfl), (Nat.le_of_ble_eq_true rfl)⟩ hl.1 rfl rfl (Nat.le_of_ble_eq_true rfl) hw hS dX8_isNarrow_4 (fun v2 x_2 H locs t2 h hw hS => ?_)
  refine lv_istore (lv' := [(4, .int v2), (0, .ref (G.2.2 1042)), (1, .int xv1), (2, .int xv2), (3, .int xv3)]) C.1.1 C.1.2.1 dX8_isNarrow_7 hl (by decide) rfl (fun ls hl => ?_)
  refine lv_aload_n C.1.1 C.1.2.1 dX8_isNarrow_9 rfl (lv_at hl 1 rfl) ?_
  refine lv_iload_n C.1.1 C.1.2.1 dX8_isNarrow_10 rfl (lv_at hl 2 rfl) ?_
  refine lv_iload_n C.1.1 C.1.2.1 dX8_isNarrow_11 rfl (lv_at hl 4 rfl) ?_
  refine y_iconst C dX8_isNarrow_12 ⟨by decide, by decide⟩ (fun v3 t3 => ?_)
  refine y_cVIp C (As := [.int xv1, .int xv3, .int v3]) (rest := []) ml_X8_229 (kX8_kindSeen l G SB S xt1 xt3 t3 h) (ocr SB) (T := TX8) (N := 60) rfl (by decide) ⟨(Nat.le_of_ble_eq_true rfl), (Nat.le_of_ble_eq_true rfl)⟩ hl.1 rfl rfl (Nat.le_of_ble_eq_true rfl) hw hS dX8_isNarrow_13 (fun v4 x_4 H locs t4 h hw hS => ?_)
  refine lv_istore (lv' := [(5, .int v4), (4, .int v2), (0, .ref (G.2.2 1042)), (1, .int xv1), (2, .int xv2), (3, .int xv3)]) C.1.1 C.1.2.1 dX8_isNarrow_16 hl (by decide) rfl (fun ls hl => ?_)
  refine lv_iload C.1.1 C.1.2.1 dX8_isNarrow_18 (lv_at hl 1 rfl) ?_
  refine lv_iload C.1.1 C.1.2.1 dX8_isNarrow_20 (lv_at hl 0 rfl) ?_
  refine y_icmp_ne C t2 t4 dX8_isNarrow_22 (tgt := 27) (by decide) (fun c5 => ?_) (fun c5 => ?_)
  · have h := h.1 c5
    refine lv_aload_n C.1.1 C.1.2.1 dX8_isNarrow_27 rfl (lv_at hl 2 rfl) ?_
    refine lv_iload_n C.1.1 C.1.2.1 dX8_isNarrow_28 rfl (lv_at hl 3 rfl) ?_
    refine lv_iload C.1.1 C.1.2.1 dX8_isNarrow_29 (lv_at hl 1 rfl) ?_
    refine y_cVIp C (As := [.int xv1, .int v2]) (rest := []) ml_X8_225 (kX8_boundOf l G SB S xt1 t2 h) (ocr SB) (T := TX8) (N := 60) rfl (by decide) ⟨(Nat.le_of_ble_eq_true rfl), (Nat.le_of_ble_eq_true rfl)⟩ hl.1 rfl rfl (Nat.le_of_ble_eq_true rfl) hw hS dX8_isNarrow_31 (fun v6 x_6 H locs t6 h hw hS => ?_)
    refine lv_istore (lv' := [(6, .int v6), (5, .int v4), (4, .int v2), (0, .ref (G.2.2 1042)), (1, .int xv1), (2, .int xv2), (3, .int xv3)]) C.1.1 C.1.2.1 dX8_isNarrow_34 hl (by decide) rfl (fun ls hl => ?_)
    refine lv_iload C.1.1 C.1.2.1 dX8_isNarrow_36 (lv_at hl 1 rfl) ?_
    refine y_iconst C dX8_isNarrow_38 ⟨by decide, by decide⟩ (fun v7 t7 => ?_)
    refine y_bipush C dX8_isNarrow_39 ⟨by decide, by decide⟩ (fun v8 t8 => ?_)
    refine y_cSIp C (As := [.int v4, .int v7, .int v8]) (rest := []) ms_X8_165 (kX8_in l G SB S t4 t7 t8 h) ⟨(Nat.le_of_ble_eq_true rfl), (Nat.le_of_ble_eq_true rfl)⟩ hl.1 rfl rfl (Nat.le_of_ble_eq_true rfl) hw hS dX8_isNarrow_41 (fun v9 x_9 H locs t9 h hw hS => ?_)
    refine y_if_eq C t9 dX8_isNarrow_44 (tgt := 73) (by decide) (fun c10 => ?_) (fun c10 => ?_)
    · have h := h.1 c10
      refine y_iconst C dX8_isNarrow_73 ⟨by decide, by decide⟩ (fun v11 t11 => ?_)
      exact y_zret C hw hS t11 (Or.inl rfl) ⟨h, rfl⟩ dX8_isNarrow_74
    · have h := h.2 c10
      refine lv_iload C.1.1 C.1.2.1 dX8_isNarrow_47 (lv_at hl 0 rfl) ?_
      refine y_iconst C dX8_isNarrow_49 ⟨by decide, by decide⟩ (fun v12 t12 => ?_)
      refine y_bipush C dX8_isNarrow_50 ⟨by decide, by decide⟩ (fun v13 t13 => ?_)
      refine y_cSIp C (As := [.int v6, .int v12, .int v13]) (rest := []) ms_X8_165 (kX8_in l G SB S t6 t12 t13 h) ⟨(Nat.le_of_ble_eq_true rfl), (Nat.le_of_ble_eq_true rfl)⟩ hl.1 rfl rfl (Nat.le_of_ble_eq_true rfl) hw hS dX8_isNarrow_52 (fun v14 x_14 H locs t14 h hw hS => ?_)
      refine y_if_eq C t14 dX8_isNarrow_55 (tgt := 73) (by decide) (fun c15 => ?_) (fun c15 => ?_)
      · have h := h.1 c15
        refine y_iconst C dX8_isNarrow_73 ⟨by decide, by decide⟩ (fun v16 t16 => ?_)
        exact y_zret C hw hS t16 (Or.inl rfl) ⟨h, rfl⟩ dX8_isNarrow_74
      · have h := h.2 c15
        refine lv_aload_n C.1.1 C.1.2.1 dX8_isNarrow_58 rfl (lv_at hl 3 rfl) ?_
        refine lv_iload C.1.1 C.1.2.1 dX8_isNarrow_59 (lv_at hl 0 rfl) ?_
        refine lv_iload C.1.1 C.1.2.1 dX8_isNarrow_61 (lv_at hl 1 rfl) ?_
        refine y_cVIp C (As := [.int v6, .int v4]) (rest := []) ml_X8_335 (kX8_isUnder l G SB S t6 t4 h) (ocr SB) (T := TX8) (N := 60) rfl (by decide) ⟨(Nat.le_of_ble_eq_true rfl), (Nat.le_of_ble_eq_true rfl)⟩ hl.1 rfl rfl (Nat.le_of_ble_eq_true rfl) hw hS dX8_isNarrow_63 (fun v17 x_17 H locs t17 h hw hS => ?_)
        refine y_if_eq C t17 dX8_isNarrow_66 (tgt := 73) (by decide) (fun c18 => ?_) (fun c18 => ?_)
        · have h := h.1 c18
          refine y_iconst C dX8_isNarrow_73 ⟨by decide, by decide⟩ (fun v19 t19 => ?_)
          exact y_zret C hw hS t19 (Or.inl rfl) ⟨h, rfl⟩ dX8_isNarrow_74
        · have h := h.2 c18
          refine y_iconst C dX8_isNarrow_69 ⟨by decide, by decide⟩ (fun v20 t20 => ?_)
          refine lv_goto (tgt := 74) C.1.1 C.1.2.1 dX8_isNarrow_70 (by decide) ?_
          exact y_zret C hw hS t20 (Or.inr rfl) ⟨h, rfl⟩ dX8_isNarrow_74
  · have h := h.2 c5
    refine y_iconst C dX8_isNarrow_25 ⟨by decide, by decide⟩ (fun v21 t21 => ?_)
    exact y_zret C hw hS t21 (Or.inr rfl) ⟨h, rfl⟩ dX8_isNarrow_26
theorem kX8_isNarrow (l : Launch) (G : GG) (SB S : St) {xv1 : Int32} {x1 : Int} (xt1 : xv1.toInt = x1) {xv2 : Int32} {x2 : Int} (xt2 : xv2.toInt = x2) {xv3 : Int32} {x3 : Int} (xt3 : xv3.toInt = x3) {k : Int → Prop} (h : wX8_isNarrow S x1 x2 x3 k) : CnI l yX8_isNarrow cX8_isNarrow 7 (some .boolean) 3 68 G (injR SB) [.ref (G.2.2 1042), .int xv1, .int xv2, .int xv3] S (fun r u => k r ∧ u = S) :=
  cn_body (by decide +kernel) (Nat.le_of_ble_eq_true rfl) (fun p e s m args below meth c ls C hw hl => uX8_isNarrow_0 C hw va_S.rf xt1 xt2 xt3 (lv_sub hl [0, 1, 2, 3] rfl) h)
set_option maxHeartbeats 4000000 in
set_option maxRecDepth 10000 in
theorem uX8_breaksAbove_178 {p : Program} {l : Launch} {e : Env} {s : State} {m : MethodId} {args : Array Value} {below : List Frame} {meth : Method} {c : Code} {G : GG} {SB : St} (C : Cx p s m args meth c G RX8 cX8_breaksAbove 7 (some .boolean)) {S : St} {H : Heap} {locs : List Loc} {ls : Array Slot} {P16 : Int → Int → Prop} {P36 : Int → Int → Prop} {k : Int → Prop} (hw : Wd G ((injR SB) S) H) (hS : va_S (AG G) s.heap H locs) {xv1 : Int32} {x1 : Int} (xt1 : xv1.toInt = x1) {xv2 : Int32} {x2 : Int} (xt2 : xv2.toInt = x2) {xv4 : Int32} {x4 : Int} (xt4 : xv4.toInt = x4) {xv5 : Int32} {x5 : Int} (xt5 : xv5.toInt = x5) (hl : lv_has ls 7 [(0, .ref (G.2.2 1042)), (1, .int xv1), (2, .int xv2), (4, .int xv4), (5, .int xv5)]) (hP16 : ∀ {H : Heap} {locs : List Loc} {ls : Array Slot} {yv3 : Int32} {y3 : Int} {yv4 : Int32} {y4 : Int}, yv3.toInt = y3 → yv4.toInt = y4 → Wd G ((injR SB) S) H → va_S (AG G) s.heap H locs → lv_has ls 7 [(0, .ref (G.2.2 1042)), (1, .int xv1), (2, .int xv2), (3, .int yv3), (4, .int yv4)] → P16 y3 y4 → W p l e (rmF 5 118) s m args below meth c H locs 0 0 (MQ below (QcI G (injR SB) (fun r u => k r ∧ u = S)) args s 0 0 (AG G)) (F0 m 16 ls [])) (hP36 : ∀ {H : Heap} {locs : List Loc} {ls : Array Slot} {yv3 : Int32} {y3 : Int} {yv5 : Int32} {y5 : Int}, yv3.toInt = y3 → yv5.toInt = y5 → Wd G ((injR SB) S) H → va_S (AG G) s.heap H locs → lv_has ls 7 [(0, .ref (G.2.2 1042)), (1, .int xv1), (2, .int xv2), (3, .int yv3), (4, .int xv4), (5, .int yv5)] → P36 y3 y5 → W p l e (rmF 5 118) s m args below meth c H locs 0 0 (MQ below (QcI G (injR SB) (fun r u => k r ∧ u = S)) args s 0 0 (AG G)) (F0 m 36 ls [])) (h : wX8_breaksAbove_178 S x1 x2 x4 x5 P16 P36 k) : W p l e (rmF 5 118) s m args below meth c H locs 0 0 (MQ below (QcI G (injR SB) (fun r u => k r ∧ u = S)) args s 0 0 (AG G)) (F0 m 178 ls []) := by
  refine y_iconst C dX8_breaksAbove_178 ⟨by decide, by decide⟩ (fun v1 t1 => ?_)
  refine lv_goto (tgt := 183) C.1.1 C.1.2.1 dX8_breaksAbove_179 (by decide) ?_
  refine lv_istore_n (lv' := [(3, .int v1), (0, .ref (G.2.2 1042)), (1, .int xv1), (2, .int xv2), (4, .int xv4), (5, .int xv5)]) C.1.1 C.1.2.1 dX8_breaksAbove_183 rfl hl (by decide) rfl (fun ls hl => ?_)
  obtain ⟨x_2, e2⟩ : ∃ z : Int, z = w32 (x5 + 1) := ⟨_, rfl⟩
  have h := h x_2 e2
  obtain ⟨v2, t2, g2⟩ : ∃ z : Int32, z.toInt = x_2 ∧ xv5 + Int32.ofInt 1 = z := ⟨_, (ti_inc xt5 ⟨by decide, by decide⟩).trans e2.symm, rfl⟩
  refine lv_iinc (v := v2) (lv' := [(5, .int v2), (3, .int v1), (0, .ref (G.2.2 1042)), (1, .int xv1), (2, .int xv2), (4, .int xv4)]) C.1.1 C.1.2.1 dX8_breaksAbove_184 hl (k := 5) rfl g2 (by decide) rfl (fun ls hl => ?_)
  refine lv_goto (tgt := 36) C.1.1 C.1.2.1 dX8_breaksAbove_187 (by decide) ?_
  exact hP36 t1 t2 hw hS (lv_sub hl [2, 3, 4, 1, 5, 0] rfl) h
set_option maxHeartbeats 4000000 in
set_option maxRecDepth 10000 in
theorem uX8_breaksAbove_130 {p : Program} {l : Launch} {e : Env} {s : State} {m : MethodId} {args : Array Value} {below : List Frame} {meth : Method} {c : Code} {G : GG} {SB : St} (C : Cx p s m args meth c G RX8 cX8_breaksAbove 7 (some .boolean)) {S : St} {H : Heap} {locs : List Loc} {ls : Array Slot} {P16 : Int → Int → Prop} {P36 : Int → Int → Prop} {k : Int → Prop} (hw : Wd G ((injR SB) S) H) (hS : va_S (AG G) s.heap H locs) {xv1 : Int32} {x1 : Int} (xt1 : xv1.toInt = x1) {xv2 : Int32} {x2 : Int} (xt2 : xv2.toInt = x2) {xv3 : Int32} {x3 : Int} (xt3 : xv3.toInt = x3) {xv4 : Int32} {x4 : Int} (xt4 : xv4.toInt = x4) {xv5 : Int32} {x5 : Int} (xt5 : xv5.toInt = x5) {sv0 : Int32} {s0 : Int} (st0 : sv0.toInt = s0) (hl : lv_has ls 7 [(0, .ref (G.2.2 1042)), (1, .int xv1), (2, .int xv2), (3, .int xv3), (4, .int xv4), (5, .int xv5)]) (hP16 : ∀ {H : Heap} {locs : List Loc} {ls : Array Slot} {yv3 : Int32} {y3 : Int} {yv4 : Int32} {y4 : Int}, yv3.toInt = y3 → yv4.toInt = y4 → Wd G ((injR SB) S) H → va_S (AG G) s.heap H locs → lv_has ls 7 [(0, .ref (G.2.2 1042)), (1, .int xv1), (2, .int xv2), (3, .int yv3), (4, .int yv4)] → P16 y3 y4 → W p l e (rmF 5 118) s m args below meth c H locs 0 0 (MQ below (QcI G (injR SB) (fun r u => k r ∧ u = S)) args s 0 0 (AG G)) (F0 m 16 ls [])) (hP36 : ∀ {H : Heap} {locs : List Loc} {ls : Array Slot} {yv3 : Int32} {y3 : Int} {yv5 : Int32} {y5 : Int}, yv3.toInt = y3 → yv5.toInt = y5 → Wd G ((injR SB) S) H → va_S (AG G) s.heap H locs → lv_has ls 7 [(0, .ref (G.2.2 1042)), (1, .int xv1), (2, .int xv2), (3, .int yv3), (4, .int xv4), (5, .int yv5)] → P36 y3 y5 → W p l e (rmF 5 118) s m args below meth c H locs 0 0 (MQ below (QcI G (injR SB) (fun r u => k r ∧ u = S)) args s 0 0 (AG G)) (F0 m 36 ls [])) (h : wX8_breaksAbove_130 S x1 x2 x3 x4 x5 s0 P16 P36 k) : W p l e (rmF 5 118) s m args below meth c H locs 0 0 (MQ below (QcI G (injR SB) (fun r u => k r ∧ u = S)) args s 0 0 (AG G)) (F0 m 130 ls [.int sv0]) := by
  refine lv_istore (lv' := [(6, .int sv0), (0, .ref (G.2.2 1042)), (1, .int xv1), (2, .int xv2), (3, .int xv3), (4, .int xv4), (5, .int xv5)]) C.1.1 C.1.2.1 dX8_breaksAbove_130 hl (by decide) rfl (fun ls hl => ?_)
  refine lv_iload_n C.1.1 C.1.2.1 dX8_breaksAbove_132 rfl (lv_at hl 4 rfl) ?_
  refine y_if_ne C xt3 dX8_breaksAbove_133 (tgt := 178) (by decide) (fun c1 => ?_) (fun c1 => ?_)
  · have h := h.1 c1
    exact uX8_breaksAbove_178 C hw hS xt1 xt2 xt4 xt5 (lv_sub hl [1, 2, 3, 5, 6] rfl) hP16 hP36 h
  · have h := h.2 c1
    refine lv_iload C.1.1 C.1.2.1 dX8_breaksAbove_136 (lv_at hl 0 rfl) ?_
    refine y_if_ne C st0 dX8_breaksAbove_138 (tgt := 178) (by decide) (fun c2 => ?_) (fun c2 => ?_)
    · have h := h.1 c2
      exact uX8_breaksAbove_178 C hw hS xt1 xt2 xt4 xt5 (lv_sub hl [1, 2, 3, 5, 6] rfl) hP16 hP36 h
    · have h := h.2 c2
      refine lv_aload_n C.1.1 C.1.2.1 dX8_breaksAbove_141 rfl (lv_at hl 1 rfl) ?_
      refine y_getA C fl_X8_128 hw (ocr SB) rfl (o := 30) rfl dX8_breaksAbove_142 ?_
      refine lv_aload_n C.1.1 C.1.2.1 dX8_breaksAbove_145 rfl (lv_at hl 1 rfl) ?_
      refine lv_iload C.1.1 C.1.2.1 dX8_breaksAbove_146 (lv_at hl 5 rfl) ?_
      refine y_cVIp C (As := [.int xv4]) (rest := [.ref (G.2.2 (1072))]) ml_X8_218 (kX8_m l G SB S xt4 h) (ocr SB) (T := TX8) (N := 60) rfl (by decide) ⟨(Nat.le_of_ble_eq_true rfl), (Nat.le_of_ble_eq_true rfl)⟩ hl.1 rfl rfl (Nat.le_of_ble_eq_true rfl) hw hS dX8_breaksAbove_148 (fun v4 x_4 H locs t4 h hw hS => ?_)
      obtain ⟨b5, h⟩ := h
      refine y_iald C hw (acr_39 SB) t4 b5 dX8_breaksAbove_151 (fun v5 t5 => ?_)
      refine lv_aload_n C.1.1 C.1.2.1 dX8_breaksAbove_152 rfl (lv_at hl 1 rfl) ?_
      refine y_getA C fl_X8_128 hw (ocr SB) rfl (o := 30) rfl dX8_breaksAbove_153 ?_
      refine lv_aload_n C.1.1 C.1.2.1 dX8_breaksAbove_156 rfl (lv_at hl 1 rfl) ?_
      refine lv_iload C.1.1 C.1.2.1 dX8_breaksAbove_157 (lv_at hl 6 rfl) ?_
      refine y_cVIp C (As := [.int xv5]) (rest := [.ref (G.2.2 (1072)), .int v5]) ml_X8_218 (kX8_m l G SB S xt5 h) (ocr SB) (T := TX8) (N := 60) rfl (by decide) ⟨(Nat.le_of_ble_eq_true rfl), (Nat.le_of_ble_eq_true rfl)⟩ hl.1 rfl rfl (Nat.le_of_ble_eq_true rfl) hw hS dX8_breaksAbove_159 (fun v7 x_7 H locs t7 h hw hS => ?_)
      obtain ⟨b8, h⟩ := h
      refine y_iald C hw (acr_39 SB) t7 b8 dX8_breaksAbove_162 (fun v8 t8 => ?_)
      refine y_icmp_lt C t5 t8 dX8_breaksAbove_163 (tgt := 178) (by decide) (fun c9 => ?_) (fun c9 => ?_)
      · have h := h.1 c9
        exact uX8_breaksAbove_178 C hw hS xt1 xt2 xt4 xt5 (lv_sub hl [1, 2, 3, 5, 6] rfl) hP16 hP36 h
      · have h := h.2 c9
        refine lv_aload_n C.1.1 C.1.2.1 dX8_breaksAbove_166 rfl (lv_at hl 1 rfl) ?_
        refine lv_iload_n C.1.1 C.1.2.1 dX8_breaksAbove_167 rfl (lv_at hl 2 rfl) ?_
        refine lv_iload C.1.1 C.1.2.1 dX8_breaksAbove_168 (lv_at hl 5 rfl) ?_
        refine lv_iload C.1.1 C.1.2.1 dX8_breaksAbove_170 (lv_at hl 6 rfl) ?_
        refine y_cVIp C (As := [.int xv1, .int xv4, .int xv5]) (rest := []) ml_X8_338 (kX8_isNarrow l G SB S xt1 xt4 xt5 h) (ocr SB) (T := TX8) (N := 60) rfl (by decide) ⟨(Nat.le_of_ble_eq_true rfl), (Nat.le_of_ble_eq_true rfl)⟩ hl.1 rfl rfl (Nat.le_of_ble_eq_true rfl) hw hS dX8_breaksAbove_172 (fun v10 x_10 H locs t10 h hw hS => ?_)
        refine y_if_ne C t10 dX8_breaksAbove_175 (tgt := 182) (by decide) (fun c11 => ?_) (fun c11 => ?_)
        · have h := h.1 c11
          refine y_iconst C dX8_breaksAbove_182 ⟨by decide, by decide⟩ (fun v12 t12 => ?_)
          refine lv_istore_n (lv' := [(3, .int v12), (6, .int sv0), (0, .ref (G.2.2 1042)), (1, .int xv1), (2, .int xv2), (4, .int xv4), (5, .int xv5)]) C.1.1 C.1.2.1 dX8_breaksAbove_183 rfl hl (by decide) rfl (fun ls hl => ?_)
          obtain ⟨x_13, e13⟩ : ∃ z : Int, z = w32 (x5 + 1) := ⟨_, rfl⟩
          have h := h x_13 e13
          obtain ⟨v13, t13, g13⟩ : ∃ z : Int32, z.toInt = x_13 ∧ xv5 + Int32.ofInt 1 = z := ⟨_, (ti_inc xt5 ⟨by decide, by decide⟩).trans e13.symm, rfl⟩
          refine lv_iinc (v := v13) (lv' := [(5, .int v13), (3, .int v12), (6, .int sv0), (0, .ref (G.2.2 1042)), (1, .int xv1), (2, .int xv2), (4, .int xv4)]) C.1.1 C.1.2.1 dX8_breaksAbove_184 hl (k := 6) rfl g13 (by decide) rfl (fun ls hl => ?_)
          refine lv_goto (tgt := 36) C.1.1 C.1.2.1 dX8_breaksAbove_187 (by decide) ?_
          exact hP36 t12 t13 hw hS (lv_sub hl [3, 4, 5, 1, 6, 0] rfl) h
        · have h := h.2 c11
          exact uX8_breaksAbove_178 C hw hS xt1 xt2 xt4 xt5 (lv_sub hl [1, 2, 3, 5, 6] rfl) hP16 hP36 h
set_option maxHeartbeats 4000000 in
set_option maxRecDepth 10000 in
theorem uX8_breaksAbove_122 {p : Program} {l : Launch} {e : Env} {s : State} {m : MethodId} {args : Array Value} {below : List Frame} {meth : Method} {c : Code} {G : GG} {SB : St} (C : Cx p s m args meth c G RX8 cX8_breaksAbove 7 (some .boolean)) {S : St} {H : Heap} {locs : List Loc} {ls : Array Slot} {P16 : Int → Int → Prop} {P36 : Int → Int → Prop} {k : Int → Prop} (hw : Wd G ((injR SB) S) H) (hS : va_S (AG G) s.heap H locs) {xv1 : Int32} {x1 : Int} (xt1 : xv1.toInt = x1) {xv2 : Int32} {x2 : Int} (xt2 : xv2.toInt = x2) {xv3 : Int32} {x3 : Int} (xt3 : xv3.toInt = x3) {xv4 : Int32} {x4 : Int} (xt4 : xv4.toInt = x4) {xv5 : Int32} {x5 : Int} (xt5 : xv5.toInt = x5) {sv0 : Int32} {s0 : Int} (st0 : sv0.toInt = s0) {sv1 : Int32} {s1 : Int} (st1 : sv1.toInt = s1) (hl : lv_has ls 7 [(0, .ref (G.2.2 1042)), (1, .int xv1), (2, .int xv2), (3, .int xv3), (4, .int xv4), (5, .int xv5)]) (hP16 : ∀ {H : Heap} {locs : List Loc} {ls : Array Slot} {yv3 : Int32} {y3 : Int} {yv4 : Int32} {y4 : Int}, yv3.toInt = y3 → yv4.toInt = y4 → Wd G ((injR SB) S) H → va_S (AG G) s.heap H locs → lv_has ls 7 [(0, .ref (G.2.2 1042)), (1, .int xv1), (2, .int xv2), (3, .int yv3), (4, .int yv4)] → P16 y3 y4 → W p l e (rmF 5 118) s m args below meth c H locs 0 0 (MQ below (QcI G (injR SB) (fun r u => k r ∧ u = S)) args s 0 0 (AG G)) (F0 m 16 ls [])) (hP36 : ∀ {H : Heap} {locs : List Loc} {ls : Array Slot} {yv3 : Int32} {y3 : Int} {yv5 : Int32} {y5 : Int}, yv3.toInt = y3 → yv5.toInt = y5 → Wd G ((injR SB) S) H → va_S (AG G) s.heap H locs → lv_has ls 7 [(0, .ref (G.2.2 1042)), (1, .int xv1), (2, .int xv2), (3, .int yv3), (4, .int xv4), (5, .int yv5)] → P36 y3 y5 → W p l e (rmF 5 118) s m args below meth c H locs 0 0 (MQ below (QcI G (injR SB) (fun r u => k r ∧ u = S)) args s 0 0 (AG G)) (F0 m 36 ls [])) (h : wX8_breaksAbove_122 S x1 x2 x3 x4 x5 s0 s1 P16 P36 k) : W p l e (rmF 5 118) s m args below meth c H locs 0 0 (MQ below (QcI G (injR SB) (fun r u => k r ∧ u = S)) args s 0 0 (AG G)) (F0 m 122 ls [.int sv1, .int sv0]) := by
  refine y_icmp_eq C st0 st1 dX8_breaksAbove_122 (tgt := 129) (by decide) (fun c1 => ?_) (fun c1 => ?_)
  · have h := h.1 c1
    refine y_iconst C dX8_breaksAbove_129 ⟨by decide, by decide⟩ (fun v2 t2 => ?_)
    exact uX8_breaksAbove_130 C hw hS xt1 xt2 xt3 xt4 xt5 t2 (lv_sub hl [0, 1, 2, 3, 4, 5] rfl) hP16 hP36 h
  · have h := h.2 c1
    refine y_iconst C dX8_breaksAbove_125 ⟨by decide, by decide⟩ (fun v3 t3 => ?_)
    refine lv_goto (tgt := 130) C.1.1 C.1.2.1 dX8_breaksAbove_126 (by decide) ?_
    exact uX8_breaksAbove_130 C hw hS xt1 xt2 xt3 xt4 xt5 t3 (lv_sub hl [0, 1, 2, 3, 4, 5] rfl) hP16 hP36 h
set_option maxHeartbeats 4000000 in
set_option maxRecDepth 10000 in
theorem uX8_breaksAbove_102 {p : Program} {l : Launch} {e : Env} {s : State} {m : MethodId} {args : Array Value} {below : List Frame} {meth : Method} {c : Code} {G : GG} {SB : St} (C : Cx p s m args meth c G RX8 cX8_breaksAbove 7 (some .boolean)) {S : St} {H : Heap} {locs : List Loc} {ls : Array Slot} {P16 : Int → Int → Prop} {P36 : Int → Int → Prop} {k : Int → Prop} (hw : Wd G ((injR SB) S) H) (hS : va_S (AG G) s.heap H locs) {xv1 : Int32} {x1 : Int} (xt1 : xv1.toInt = x1) {xv2 : Int32} {x2 : Int} (xt2 : xv2.toInt = x2) {xv3 : Int32} {x3 : Int} (xt3 : xv3.toInt = x3) {xv4 : Int32} {x4 : Int} (xt4 : xv4.toInt = x4) {xv5 : Int32} {x5 : Int} (xt5 : xv5.toInt = x5) {sv0 : Int32} {s0 : Int} (st0 : sv0.toInt = s0) (hl : lv_has ls 7 [(0, .ref (G.2.2 1042)), (1, .int xv1), (2, .int xv2), (3, .int xv3), (4, .int xv4), (5, .int xv5)]) (hP16 : ∀ {H : Heap} {locs : List Loc} {ls : Array Slot} {yv3 : Int32} {y3 : Int} {yv4 : Int32} {y4 : Int}, yv3.toInt = y3 → yv4.toInt = y4 → Wd G ((injR SB) S) H → va_S (AG G) s.heap H locs → lv_has ls 7 [(0, .ref (G.2.2 1042)), (1, .int xv1), (2, .int xv2), (3, .int yv3), (4, .int yv4)] → P16 y3 y4 → W p l e (rmF 5 118) s m args below meth c H locs 0 0 (MQ below (QcI G (injR SB) (fun r u => k r ∧ u = S)) args s 0 0 (AG G)) (F0 m 16 ls [])) (hP36 : ∀ {H : Heap} {locs : List Loc} {ls : Array Slot} {yv3 : Int32} {y3 : Int} {yv5 : Int32} {y5 : Int}, yv3.toInt = y3 → yv5.toInt = y5 → Wd G ((injR SB) S) H → va_S (AG G) s.heap H locs → lv_has ls 7 [(0, .ref (G.2.2 1042)), (1, .int xv1), (2, .int xv2), (3, .int yv3), (4, .int xv4), (5, .int yv5)] → P36 y3 y5 → W p l e (rmF 5 118) s m args below meth c H locs 0 0 (MQ below (QcI G (injR SB) (fun r u => k r ∧ u = S)) args s 0 0 (AG G)) (F0 m 36 ls [])) (h : wX8_breaksAbove_102 S x1 x2 x3 x4 x5 s0 P16 P36 k) : W p l e (rmF 5 118) s m args below meth c H locs 0 0 (MQ below (QcI G (injR SB) (fun r u => k r ∧ u = S)) args s 0 0 (AG G)) (F0 m 102 ls [.int sv0]) := by
  refine lv_aload_n C.1.1 C.1.2.1 dX8_breaksAbove_102 rfl (lv_at hl 0 rfl) ?_
  refine y_getA C fl_X8_131 hw (ocr SB) rfl (o := 31) rfl dX8_breaksAbove_103 ?_
  refine lv_aload_n C.1.1 C.1.2.1 dX8_breaksAbove_106 rfl (lv_at hl 0 rfl) ?_
  refine lv_iload C.1.1 C.1.2.1 dX8_breaksAbove_107 (lv_at hl 5 rfl) ?_
  refine y_cVIp C (As := [.int xv5]) (rest := [.ref (G.2.2 (1073)), .int sv0]) ml_X8_218 (kX8_m l G SB S xt5 h) (ocr SB) (T := TX8) (N := 60) rfl (by decide) ⟨(Nat.le_of_ble_eq_true rfl), (Nat.le_of_ble_eq_true rfl)⟩ hl.1 rfl rfl (Nat.le_of_ble_eq_true rfl) hw hS dX8_breaksAbove_109 (fun v2 x_2 H locs t2 h hw hS => ?_)
  obtain ⟨b3, h⟩ := h
  refine y_iald C hw (acr_40 SB) t2 b3 dX8_breaksAbove_112 (fun v3 t3 => ?_)
  refine y_iconst C dX8_breaksAbove_113 ⟨by decide, by decide⟩ (fun v4 t4 => ?_)
  refine y_icmp_ne C t3 t4 dX8_breaksAbove_114 (tgt := 121) (by decide) (fun c5 => ?_) (fun c5 => ?_)
  · have h := h.1 c5
    refine y_iconst C dX8_breaksAbove_121 ⟨by decide, by decide⟩ (fun v6 t6 => ?_)
    exact uX8_breaksAbove_122 C hw hS xt1 xt2 xt3 xt4 xt5 st0 t6 (lv_sub hl [0, 1, 2, 3, 4, 5] rfl) hP16 hP36 h
  · have h := h.2 c5
    refine y_iconst C dX8_breaksAbove_117 ⟨by decide, by decide⟩ (fun v7 t7 => ?_)
    refine lv_goto (tgt := 122) C.1.1 C.1.2.1 dX8_breaksAbove_118 (by decide) ?_
    exact uX8_breaksAbove_122 C hw hS xt1 xt2 xt3 xt4 xt5 st0 t7 (lv_sub hl [0, 1, 2, 3, 4, 5] rfl) hP16 hP36 h
set_option maxHeartbeats 4000000 in
set_option maxRecDepth 10000 in
theorem uX8_breaksAbove_36_b {p : Program} {l : Launch} {e : Env} {s : State} {m : MethodId} {args : Array Value} {below : List Frame} {meth : Method} {c : Code} {G : GG} {SB : St} (C : Cx p s m args meth c G RX8 cX8_breaksAbove 7 (some .boolean)) {S : St} {H : Heap} {locs : List Loc} {ls : Array Slot} {P16 : Int → Int → Prop} {P36 : Int → Int → Prop} {k : Int → Prop} (hw : Wd G ((injR SB) S) H) (hS : va_S (AG G) s.heap H locs) {xv1 : Int32} {x1 : Int} (xt1 : xv1.toInt = x1) {xv2 : Int32} {x2 : Int} (xt2 : xv2.toInt = x2) {xv3 : Int32} {x3 : Int} (xt3 : xv3.toInt = x3) {xv4 : Int32} {x4 : Int} (xt4 : xv4.toInt = x4) {xv5 : Int32} {x5 : Int} (xt5 : xv5.toInt = x5) (hl : lv_has ls 7 [(0, .ref (G.2.2 1042)), (1, .int xv1), (2, .int xv2), (3, .int xv3), (4, .int xv4), (5, .int xv5)]) (hP16 : ∀ {H : Heap} {locs : List Loc} {ls : Array Slot} {yv3 : Int32} {y3 : Int} {yv4 : Int32} {y4 : Int}, yv3.toInt = y3 → yv4.toInt = y4 → Wd G ((injR SB) S) H → va_S (AG G) s.heap H locs → lv_has ls 7 [(0, .ref (G.2.2 1042)), (1, .int xv1), (2, .int xv2), (3, .int yv3), (4, .int yv4)] → P16 y3 y4 → W p l e (rmF 5 118) s m args below meth c H locs 0 0 (MQ below (QcI G (injR SB) (fun r u => k r ∧ u = S)) args s 0 0 (AG G)) (F0 m 16 ls [])) (hP36 : ∀ {H : Heap} {locs : List Loc} {ls : Array Slot} {yv3 : Int32} {y3 : Int} {yv5 : Int32} {y5 : Int}, yv3.toInt = y3 → yv5.toInt = y5 → Wd G ((injR SB) S) H → va_S (AG G) s.heap H locs → lv_has ls 7 [(0, .ref (G.2.2 1042)), (1, .int xv1), (2, .int xv2), (3, .int yv3), (4, .int xv4), (5, .int yv5)] → P36 y3 y5 → W p l e (rmF 5 118) s m args below meth c H locs 0 0 (MQ below (QcI G (injR SB) (fun r u => k r ∧ u = S)) args s 0 0 (AG G)) (F0 m 36 ls [])) (h : wX8_breaksAbove_36_b S x1 x2 x3 x4 x5 P16 P36 k) : W p l e (rmF 5 118) s m args below meth c H locs 0 0 (MQ below (QcI G (injR SB) (fun r u => k r ∧ u = S)) args s 0 0 (AG G)) (F0 m 36 ls []) := by
  refine lv_iload C.1.1 C.1.2.1 dX8_breaksAbove_36 (lv_at hl 5 rfl) ?_
  refine lv_iload_n C.1.1 C.1.2.1 dX8_breaksAbove_38 rfl (lv_at hl 2 rfl) ?_
  refine y_icmp_ge C xt5 xt2 dX8_breaksAbove_39 (tgt := 190) (by decide) (fun c1 => ?_) (fun c1 => ?_)
  · have h := h.1 c1
    obtain ⟨x_2, e2⟩ : ∃ z : Int, z = w32 (x4 + 1) := ⟨_, rfl⟩
    have h := h x_2 e2
    obtain ⟨v2, t2, g2⟩ : ∃ z : Int32, z.toInt = x_2 ∧ xv4 + Int32.ofInt 1 = z := ⟨_, (ti_inc xt4 ⟨by decide, by decide⟩).trans e2.symm, rfl⟩
    refine lv_iinc (v := v2) (lv' := [(4, .int v2), (0, .ref (G.2.2 1042)), (1, .int xv1), (2, .int xv2), (3, .int xv3), (5, .int xv5)]) C.1.1 C.1.2.1 dX8_breaksAbove_190 hl (k := 4) rfl g2 (by decide) rfl (fun ls hl => ?_)
    refine lv_goto (tgt := 16) C.1.1 C.1.2.1 dX8_breaksAbove_193 (by decide) ?_
    exact hP16 xt3 t2 hw hS (lv_sub hl [1, 2, 3, 4, 0] rfl) h
  · have h := h.2 c1
    refine lv_aload_n C.1.1 C.1.2.1 dX8_breaksAbove_42 rfl (lv_at hl 0 rfl) ?_
    refine y_getA C fl_X8_103 hw (ocr SB) rfl (o := 22) rfl dX8_breaksAbove_43 ?_
    refine y_bipush C dX8_breaksAbove_46 ⟨by decide, by decide⟩ (fun v4 t4 => ?_)
    refine lv_aload_n C.1.1 C.1.2.1 dX8_breaksAbove_48 rfl (lv_at hl 0 rfl) ?_
    refine lv_iload_n C.1.1 C.1.2.1 dX8_breaksAbove_49 rfl (lv_at hl 1 rfl) ?_
    refine y_cVIp C (As := [.int xv1]) (rest := [.int v4, .ref (G.2.2 (1064))]) ml_X8_214 (kX8_t l G SB S xt1 h) (ocr SB) (T := TX8) (N := 60) rfl (by decide) ⟨(Nat.le_of_ble_eq_true rfl), (Nat.le_of_ble_eq_true rfl)⟩ hl.1 rfl rfl (Nat.le_of_ble_eq_true rfl) hw hS dX8_breaksAbove_50 (fun v5 x_5 H locs t5 h hw hS => ?_)
    refine y_imul C t4 t5 dX8_breaksAbove_53 (fun v6 t6 => ?_)
    refine lv_aload_n C.1.1 C.1.2.1 dX8_breaksAbove_54 rfl (lv_at hl 0 rfl) ?_
    refine y_getA C fl_X8_122 hw (ocr SB) rfl (o := 28) rfl dX8_breaksAbove_55 ?_
    refine lv_aload_n C.1.1 C.1.2.1 dX8_breaksAbove_58 rfl (lv_at hl 0 rfl) ?_
    refine lv_iload C.1.1 C.1.2.1 dX8_breaksAbove_59 (lv_at hl 5 rfl) ?_
    refine y_cVIp C (As := [.int xv5]) (rest := [.ref (G.2.2 (1070)), .int v6, .ref (G.2.2 (1064))]) ml_X8_218 (kX8_m l G SB S xt5 h) (ocr SB) (T := TX8) (N := 60) rfl (by decide) ⟨(Nat.le_of_ble_eq_true rfl), (Nat.le_of_ble_eq_true rfl)⟩ hl.1 rfl rfl (Nat.le_of_ble_eq_true rfl) hw hS dX8_breaksAbove_61 (fun v8 x_8 H locs t8 h hw hS => ?_)
    obtain ⟨b9, h⟩ := h
    refine y_iald C hw (acr_37 SB) t8 b9 dX8_breaksAbove_64 (fun v9 t9 => ?_)
    refine y_iadd C t6 t9 dX8_breaksAbove_65 (fun v10 t10 => ?_)
    obtain ⟨b11, h⟩ := h
    refine y_zald C hw (acr_31 SB) t10 b11 dX8_breaksAbove_66 (fun v11 t11 => ?_)
    refine y_if_eq C t11 dX8_breaksAbove_67 (tgt := 184) (by decide) (fun c12 => ?_) (fun c12 => ?_)
    · have h := h.1 c12
      obtain ⟨x_13, e13⟩ : ∃ z : Int, z = w32 (x5 + 1) := ⟨_, rfl⟩
      have h := h x_13 e13
      obtain ⟨v13, t13, g13⟩ : ∃ z : Int32, z.toInt = x_13 ∧ xv5 + Int32.ofInt 1 = z := ⟨_, (ti_inc xt5 ⟨by decide, by decide⟩).trans e13.symm, rfl⟩
      refine lv_iinc (v := v13) (lv' := [(5, .int v13), (0, .ref (G.2.2 1042)), (1, .int xv1), (2, .int xv2), (3, .int xv3), (4, .int xv4)]) C.1.1 C.1.2.1 dX8_breaksAbove_184 hl (k := 5) rfl g13 (by decide) rfl (fun ls hl => ?_)
      refine lv_goto (tgt := 36) C.1.1 C.1.2.1 dX8_breaksAbove_187 (by decide) ?_
      exact hP36 xt3 t13 hw hS (lv_sub hl [1, 2, 3, 4, 5, 0] rfl) h
    · have h := h.2 c12
      refine lv_aload_n C.1.1 C.1.2.1 dX8_breaksAbove_70 rfl (lv_at hl 0 rfl) ?_
      refine lv_iload_n C.1.1 C.1.2.1 dX8_breaksAbove_71 rfl (lv_at hl 1 rfl) ?_
      refine lv_iload C.1.1 C.1.2.1 dX8_breaksAbove_72 (lv_at hl 4 rfl) ?_
      refine lv_iload C.1.1 C.1.2.1 dX8_breaksAbove_74 (lv_at hl 5 rfl) ?_
      refine y_cVIp C (As := [.int xv1, .int xv4, .int xv5]) (rest := []) ml_X8_332 (kX8_isAkin l G SB S xt1 xt4 xt5 h) (ocr SB) (T := TX8) (N := 60) rfl (by decide) ⟨(Nat.le_of_ble_eq_true rfl), (Nat.le_of_ble_eq_true rfl)⟩ hl.1 rfl rfl (Nat.le_of_ble_eq_true rfl) hw hS dX8_breaksAbove_76 (fun v14 x_14 H locs t14 h hw hS => ?_)
      refine y_if_eq C t14 dX8_breaksAbove_79 (tgt := 184) (by decide) (fun c15 => ?_) (fun c15 => ?_)
      · have h := h.1 c15
        obtain ⟨x_16, e16⟩ : ∃ z : Int, z = w32 (x5 + 1) := ⟨_, rfl⟩
        have h := h x_16 e16
        obtain ⟨v16, t16, g16⟩ : ∃ z : Int32, z.toInt = x_16 ∧ xv5 + Int32.ofInt 1 = z := ⟨_, (ti_inc xt5 ⟨by decide, by decide⟩).trans e16.symm, rfl⟩
        refine lv_iinc (v := v16) (lv' := [(5, .int v16), (0, .ref (G.2.2 1042)), (1, .int xv1), (2, .int xv2), (3, .int xv3), (4, .int xv4)]) C.1.1 C.1.2.1 dX8_breaksAbove_184 hl (k := 5) rfl g16 (by decide) rfl (fun ls hl => ?_)
        refine lv_goto (tgt := 36) C.1.1 C.1.2.1 dX8_breaksAbove_187 (by decide) ?_
        exact hP36 xt3 t16 hw hS (lv_sub hl [1, 2, 3, 4, 5, 0] rfl) h
      · have h := h.2 c15
        refine lv_aload_n C.1.1 C.1.2.1 dX8_breaksAbove_82 rfl (lv_at hl 0 rfl) ?_
        refine y_getA C fl_X8_131 hw (ocr SB) rfl (o := 31) rfl dX8_breaksAbove_83 ?_
        refine lv_aload_n C.1.1 C.1.2.1 dX8_breaksAbove_86 rfl (lv_at hl 0 rfl) ?_
        refine lv_iload C.1.1 C.1.2.1 dX8_breaksAbove_87 (lv_at hl 4 rfl) ?_
        refine y_cVIp C (As := [.int xv4]) (rest := [.ref (G.2.2 (1073))]) ml_X8_218 (kX8_m l G SB S xt4 h) (ocr SB) (T := TX8) (N := 60) rfl (by decide) ⟨(Nat.le_of_ble_eq_true rfl), (Nat.le_of_ble_eq_true rfl)⟩ hl.1 rfl rfl (Nat.le_of_ble_eq_true rfl) hw hS dX8_breaksAbove_89 (fun v18 x_18 H locs t18 h hw hS => ?_)
        obtain ⟨b19, h⟩ := h
        refine y_iald C hw (acr_40 SB) t18 b19 dX8_breaksAbove_92 (fun v19 t19 => ?_)
        refine y_iconst C dX8_breaksAbove_93 ⟨by decide, by decide⟩ (fun v20 t20 => ?_)
        refine y_icmp_ne C t19 t20 dX8_breaksAbove_94 (tgt := 101) (by decide) (fun c21 => ?_) (fun c21 => ?_)
        · have h := h.1 c21
          refine y_iconst C dX8_breaksAbove_101 ⟨by decide, by decide⟩ (fun v22 t22 => ?_)
          exact uX8_breaksAbove_102 C hw hS xt1 xt2 xt3 xt4 xt5 t22 (lv_sub hl [0, 1, 2, 3, 4, 5] rfl) hP16 hP36 h
        · have h := h.2 c21
          refine y_iconst C dX8_breaksAbove_97 ⟨by decide, by decide⟩ (fun v23 t23 => ?_)
          refine lv_goto (tgt := 102) C.1.1 C.1.2.1 dX8_breaksAbove_98 (by decide) ?_
          exact uX8_breaksAbove_102 C hw hS xt1 xt2 xt3 xt4 xt5 t23 (lv_sub hl [0, 1, 2, 3, 4, 5] rfl) hP16 hP36 h
set_option maxHeartbeats 4000000 in
set_option maxRecDepth 10000 in
theorem uX8_breaksAbove_36 {p : Program} {l : Launch} {e : Env} {s : State} {m : MethodId} {args : Array Value} {below : List Frame} {meth : Method} {c : Code} {G : GG} {SB : St} (C : Cx p s m args meth c G RX8 cX8_breaksAbove 7 (some .boolean)) {S : St} {H : Heap} {locs : List Loc} {ls : Array Slot} {P16 : Int → Int → Prop} {k : Int → Prop} (hw : Wd G ((injR SB) S) H) (hS : va_S (AG G) s.heap H locs) {xv1 : Int32} {x1 : Int} (xt1 : xv1.toInt = x1) {xv2 : Int32} {x2 : Int} (xt2 : xv2.toInt = x2) {xv3 : Int32} {x3 : Int} (xt3 : xv3.toInt = x3) {xv4 : Int32} {x4 : Int} (xt4 : xv4.toInt = x4) {xv5 : Int32} {x5 : Int} (xt5 : xv5.toInt = x5) (hl : lv_has ls 7 [(0, .ref (G.2.2 1042)), (1, .int xv1), (2, .int xv2), (3, .int xv3), (4, .int xv4), (5, .int xv5)]) (hP16 : ∀ {H : Heap} {locs : List Loc} {ls : Array Slot} {yv3 : Int32} {y3 : Int} {yv4 : Int32} {y4 : Int}, yv3.toInt = y3 → yv4.toInt = y4 → Wd G ((injR SB) S) H → va_S (AG G) s.heap H locs → lv_has ls 7 [(0, .ref (G.2.2 1042)), (1, .int xv1), (2, .int xv2), (3, .int yv3), (4, .int yv4)] → P16 y3 y4 → W p l e (rmF 5 118) s m args below meth c H locs 0 0 (MQ below (QcI G (injR SB) (fun r u => k r ∧ u = S)) args s 0 0 (AG G)) (F0 m 16 ls [])) (h : wX8_breaksAbove_36 S x1 x2 x3 x4 x5 P16 k) : W p l e (rmF 5 118) s m args below meth c H locs 0 0 (MQ below (QcI G (injR SB) (fun r u => k r ∧ u = S)) args s 0 0 (AG G)) (F0 m 36 ls []) := by
  have key : ∀ (n : Nat) {H : Heap} {locs : List Loc} {ls : Array Slot} {xv3 : Int32} {x3 : Int} {xv5 : Int32} {x5 : Int}, xv3.toInt = x3 → xv5.toInt = x5 → Wd G ((injR SB) S) H → va_S (AG G) s.heap H locs → lv_has ls 7 [(0, .ref (G.2.2 1042)), (1, .int xv1), (2, .int xv2), (3, .int xv3), (4, .int xv4), (5, .int xv5)] → itP (fun (P : Int × Int → Prop) (a : Int × Int) => wX8_breaksAbove_36_b S x1 x2 a.1 x4 a.2 P16 (fun b0 b1 => P (b0, b1)) k) n (x3, x5) → W p l e (rmF 5 118) s m args below meth c H locs 0 0 (MQ below (QcI G (injR SB) (fun r u => k r ∧ u = S)) args s 0 0 (AG G)) (F0 m 36 ls []) := by
    intro n
    induction n with
    | zero => intro H locs ls xv3 x3 xv5 x5 xt3 xt5 hw hS hl h; exact h.elim
    | succ n ih =>
      intro H locs ls xv3 x3 xv5 x5 xt3 xt5 hw hS hl h
      exact uX8_breaksAbove_36_b C hw hS xt1 xt2 xt3 xt4 xt5 hl hP16 (P36 := fun b0 b1 => itP _ n (b0, b1)) (fun q0 q1 hw hS hl h => ih q0 q1 hw hS hl h) h
  obtain ⟨n, hn⟩ := h
  exact key n xt3 xt5 hw hS hl hn
set_option maxHeartbeats 4000000 in
set_option maxRecDepth 10000 in
theorem uX8_breaksAbove_16_b {p : Program} {l : Launch} {e : Env} {s : State} {m : MethodId} {args : Array Value} {below : List Frame} {meth : Method} {c : Code} {G : GG} {SB : St} (C : Cx p s m args meth c G RX8 cX8_breaksAbove 7 (some .boolean)) {S : St} {H : Heap} {locs : List Loc} {ls : Array Slot}  {P16 : Int → Int → Prop} {k : Int → Prop} (hw : Wd G ((injR SB) S) H) (hS : va_S (AG G) s.heap H locs) {xv1 : Int32} {x1 : Int} (xt1 : xv1.toInt = x1) {xv2 : Int32} {x2 : Int} (xt2 : xv2.toInt = x2) {xv3 : Int32} {x3 : Int} (xt3 : xv3.toInt = x3) {xv4 : Int32} {x4 : Int} (xt4 : xv4.toInt = x4) (hl : lv_has ls 7 [(0, .ref (G.2.2 1042)), (1, .int xv1), (2, .int xv2), (3, .int xv3), (4, .int xv4)])  (hP16 : ∀ {H : Heap} {locs : List Loc} {ls : Array Slot} {yv3 : Int32} {y3 : Int} {yv4 : Int32} {y4 : Int}, yv3.toInt = y3 → yv4.toInt = y4 → Wd G ((injR SB) S) H → va_S (AG G) s.heap H locs → lv_has ls 7 [(0, .ref (G.2.2 1042)), (1, .int xv1), (2, .int xv2), (3, .int yv3), (4, .int yv4)] → P16 y3 y4 → W p l e (rmF 5 118) s m args below meth c H locs 0 0 (MQ below (QcI G (injR SB) (fun r u => k r ∧ u = S)) args s 0 0 (AG G)) (F0 m 16 ls [])) (h : wX8_breaksAbove_16_b S x1 x2 x3 x4 P16 k) : W p l e (rmF 5 118) s m args below meth c H locs 0 0 (MQ below (QcI G (injR SB) (fun r u => k r ∧ u = S)) args s 0 0 (AG G)) (F0 m 16 ls []) := by
  refine lv_iload C.1.1 C.1.2.1 dX8_breaksAbove_16 (lv_at hl 4 rfl) ?_
  refine lv_iload_n C.1.1 C.1.2.1 dX8_breaksAbove_18 rfl (lv_at hl 2 rfl) ?_
  refine lv_aload_n C.1.1 C.1.2.1 dX8_breaksAbove_19 rfl (lv_at hl 0 rfl) ?_
  refine y_getA C fl_X8_113 hw (ocr SB) rfl (o := 25) rfl dX8_breaksAbove_20 ?_
  refine lv_aload_n C.1.1 C.1.2.1 dX8_breaksAbove_23 rfl (lv_at hl 0 rfl) ?_
  refine lv_iload_n C.1.1 C.1.2.1 dX8_breaksAbove_24 rfl (lv_at hl 1 rfl) ?_
  refine y_cVIp C (As := [.int xv1]) (rest := [.ref (G.2.2 (1067)), .int xv2, .int xv4]) ml_X8_214 (kX8_t l G SB S xt1 h) (ocr SB) (T := TX8) (N := 60) rfl (by decide) ⟨(Nat.le_of_ble_eq_true rfl), (Nat.le_of_ble_eq_true rfl)⟩ hl.1 rfl rfl (Nat.le_of_ble_eq_true rfl) hw hS dX8_breaksAbove_25 (fun v2 x_2 H locs t2 h hw hS => ?_)
  obtain ⟨b3, h⟩ := h
  refine y_iald C hw (acr_34 SB) t2 b3 dX8_breaksAbove_28 (fun v3 t3 => ?_)
  refine y_iadd C xt2 t3 dX8_breaksAbove_29 (fun v4 t4 => ?_)
  refine y_icmp_ge C xt4 t4 dX8_breaksAbove_30 (tgt := 196) (by decide) (fun c5 => ?_) (fun c5 => ?_)
  · have h := h.1 c5
    refine lv_iload_n C.1.1 C.1.2.1 dX8_breaksAbove_196 rfl (lv_at hl 3 rfl) ?_
    obtain ⟨z, h⟩ := h
    exact y_zret C hw hS xt3 z ⟨h, rfl⟩ dX8_breaksAbove_197
  · have h := h.2 c5
    refine y_iconst C dX8_breaksAbove_33 ⟨by decide, by decide⟩ (fun v6 t6 => ?_)
    refine lv_istore (lv' := [(5, .int v6), (0, .ref (G.2.2 1042)), (1, .int xv1), (2, .int xv2), (3, .int xv3), (4, .int xv4)]) C.1.1 C.1.2.1 dX8_breaksAbove_34 hl (by decide) rfl (fun ls hl => ?_)
    exact uX8_breaksAbove_36 C hw hS xt1 xt2 xt3 xt4 t6 (lv_sub hl [1, 2, 3, 4, 5, 0] rfl) hP16 h
set_option maxHeartbeats 4000000 in
set_option maxRecDepth 10000 in
theorem uX8_breaksAbove_16 {p : Program} {l : Launch} {e : Env} {s : State} {m : MethodId} {args : Array Value} {below : List Frame} {meth : Method} {c : Code} {G : GG} {SB : St} (C : Cx p s m args meth c G RX8 cX8_breaksAbove 7 (some .boolean)) {S : St} {H : Heap} {locs : List Loc} {ls : Array Slot}  {k : Int → Prop} (hw : Wd G ((injR SB) S) H) (hS : va_S (AG G) s.heap H locs) {xv1 : Int32} {x1 : Int} (xt1 : xv1.toInt = x1) {xv2 : Int32} {x2 : Int} (xt2 : xv2.toInt = x2) {xv3 : Int32} {x3 : Int} (xt3 : xv3.toInt = x3) {xv4 : Int32} {x4 : Int} (xt4 : xv4.toInt = x4) (hl : lv_has ls 7 [(0, .ref (G.2.2 1042)), (1, .int xv1), (2, .int xv2), (3, .int xv3), (4, .int xv4)])  (h : wX8_breaksAbove_16 S x1 x2 x3 x4 k) : W p l e (rmF 5 118) s m args below meth c H locs 0 0 (MQ below (QcI G (injR SB) (fun r u => k r ∧ u = S)) args s 0 0 (AG G)) (F0 m 16 ls []) := by
  have key : ∀ (n : Nat) {H : Heap} {locs : List Loc} {ls : Array Slot} {xv3 : Int32} {x3 : Int} {xv4 : Int32} {x4 : Int}, xv3.toInt = x3 → xv4.toInt = x4 → Wd G ((injR SB) S) H → va_S (AG G) s.heap H locs → lv_has ls 7 [(0, .ref (G.2.2 1042)), (1, .int xv1), (2, .int xv2), (3, .int xv3), (4, .int xv4)] → itP (fun (P : Int × Int → Prop) (a : Int × Int) => wX8_breaksAbove_16_b S x1 x2 a.1 a.2 (fun b0 b1 => P (b0, b1)) k) n (x3, x4) → W p l e (rmF 5 118) s m args below meth c H locs 0 0 (MQ below (QcI G (injR SB) (fun r u => k r ∧ u = S)) args s 0 0 (AG G)) (F0 m 16 ls []) := by
    intro n
    induction n with
    | zero => intro H locs ls xv3 x3 xv4 x4 xt3 xt4 hw hS hl h; exact h.elim
    | succ n ih =>
      intro H locs ls xv3 x3 xv4 x4 xt3 xt4 hw hS hl h
      exact uX8_breaksAbove_16_b C hw hS xt1 xt2 xt3 xt4 hl  (P16 := fun b0 b1 => itP _ n (b0, b1)) (fun q0 q1 hw hS hl h => ih q0 q1 hw hS hl h) h
  obtain ⟨n, hn⟩ := h
  exact key n xt3 xt4 hw hS hl hn
set_option maxHeartbeats 4000000 in
set_option maxRecDepth 10000 in
theorem uX8_breaksAbove_0 {p : Program} {l : Launch} {e : Env} {s : State} {m : MethodId} {args : Array Value} {below : List Frame} {meth : Method} {c : Code} {G : GG} {SB : St} (C : Cx p s m args meth c G RX8 cX8_breaksAbove 7 (some .boolean)) {S : St} {H : Heap} {locs : List Loc} {ls : Array Slot}  {k : Int → Prop} (hw : Wd G ((injR SB) S) H) (hS : va_S (AG G) s.heap H locs) {xv1 : Int32} {x1 : Int} (xt1 : xv1.toInt = x1) (hl : lv_has ls 7 [(0, .ref (G.2.2 1042)), (1, .int xv1)])  (h : wX8_breaksAbove_0 S x1 k) : W p l e (rmF 5 118) s m args below meth c H locs 0 0 (MQ below (QcI G (injR SB) (fun r u => k r ∧ u = S)) args s 0 0 (AG G)) (F0 m 0 ls []) := by
  refine lv_aload_n C.1.1 C.1.2.1 dX8_breaksAbove_0 rfl (lv_at hl 0 rfl) ?_
  refine y_getA C fl_X8_110 hw (ocr SB) rfl (o := 24) rfl dX8_breaksAbove_1 ?_
  refine lv_aload_n C.1.1 C.1.2.1 dX8_breaksAbove_4 rfl (lv_at hl 0 rfl) ?_
  refine lv_iload_n C.1.1 C.1.2.1 dX8_breaksAbove_5 rfl (lv_at hl 1 rfl) ?_
  refine y_cVIp C (As := [.int xv1]) (rest := [.ref (G.2.2 (1066))]) ml_X8_214 (kX8_t l G SB S xt1 h) (ocr SB) (T := TX8) (N := 60) rfl (by decide) ⟨(Nat.le_of_ble_eq_true rfl), (Nat.le_of_ble_eq_true rfl)⟩ hl.1 rfl rfl (Nat.le_of_ble_eq_true rfl) hw hS dX8_breaksAbove_6 (fun v2 x_2 H locs t2 h hw hS => ?_)
  obtain ⟨b3, h⟩ := h
  refine y_iald C hw (acr_33 SB) t2 b3 dX8_breaksAbove_9 (fun v3 t3 => ?_)
  obtain ⟨x_4, e4⟩ : ∃ z : Int, z = S 24 x_2 := ⟨_, rfl⟩
  have h := h x_4 e4
  have t4 := t3.trans e4.symm
  refine lv_istore_n (lv' := [(2, .int v3), (0, .ref (G.2.2 1042)), (1, .int xv1)]) C.1.1 C.1.2.1 dX8_breaksAbove_10 rfl hl (by decide) rfl (fun ls hl => ?_)
  refine y_iconst C dX8_breaksAbove_11 ⟨by decide, by decide⟩ (fun v5 t5 => ?_)
  refine lv_istore_n (lv' := [(3, .int v5), (2, .int v3), (0, .ref (G.2.2 1042)), (1, .int xv1)]) C.1.1 C.1.2.1 dX8_breaksAbove_12 rfl hl (by decide) rfl (fun ls hl => ?_)
  refine lv_iload_n C.1.1 C.1.2.1 dX8_breaksAbove_13 rfl (lv_at hl 1 rfl) ?_
  refine lv_istore (lv' := [(4, .int v3), (3, .int v5), (2, .int v3), (0, .ref (G.2.2 1042)), (1, .int xv1)]) C.1.1 C.1.2.1 dX8_breaksAbove_14 hl (by decide) rfl (fun ls hl => ?_)
  exact uX8_breaksAbove_16 C hw hS xt1 t4 t5 t4 (lv_sub hl [3, 4, 2, 1, 0] rfl)  h
theorem kX8_breaksAbove (l : Launch) (G : GG) (SB S : St) {xv1 : Int32} {x1 : Int} (xt1 : xv1.toInt = x1) {k : Int → Prop} (h : wX8_breaksAbove S x1 k) : CnI l yX8_breaksAbove cX8_breaksAbove 7 (some .boolean) 5 118 G (injR SB) [.ref (G.2.2 1042), .int xv1] S (fun r u => k r ∧ u = S) :=
  cn_body (by decide +kernel) (Nat.le_of_ble_eq_true rfl) (fun p e s m args below meth c ls C hw hl => uX8_breaksAbove_0 C hw va_S.rf xt1 (lv_sub hl [0, 1] rfl) h)
set_option maxHeartbeats 4000000 in
set_option maxRecDepth 10000 in
theorem uX8_isBare_0 {p : Program} {l : Launch} {e : Env} {s : State} {m : MethodId} {args : Array Value} {below : List Frame} {meth : Method} {c : Code} {G : GG} {SB : St} (C : Cx p s m args meth c G RX8 cX8_isBare 2 (some .boolean)) {S : St} {H : Heap} {locs : List Loc} {ls : Array Slot}  {k : Int → Prop} (hw : Wd G ((injR SB) S) H) (hS : va_S (AG G) s.heap H locs) {xv1 : Int32} {x1 : Int} (xt1 : xv1.toInt = x1) (hl : lv_has ls 2 [(0, .ref (G.2.2 1042)), (1, .int xv1)])  (h : wX8_isBare_0 S x1 k) : W p l e (rmF 1 21) s m args below meth c H locs 0 0 (MQ below (QcI G (injR SB) (fun r u => k r ∧ u = S)) args s 0 0 (AG G)) (F0 m 0 ls []) := by
  refine lv_aload_n C.1.1 C.1.2.1 dX8_isBare_0 rfl (lv_at hl 0 rfl) ?_
  refine y_getA C fl_X8_131 hw (ocr SB) rfl (o := 31) rfl dX8_isBare_1 ?_
  refine lv_aload_n C.1.1 C.1.2.1 dX8_isBare_4 rfl (lv_at hl 0 rfl) ?_
  refine lv_iload_n C.1.1 C.1.2.1 dX8_isBare_5 rfl (lv_at hl 1 rfl) ?_
  refine y_cVIp C (As := [.int xv1]) (rest := [.ref (G.2.2 (1073))]) ml_X8_218 (kX8_m l G SB S xt1 h) (ocr SB) (T := TX8) (N := 60) rfl (by decide) ⟨(Nat.le_of_ble_eq_true rfl), (Nat.le_of_ble_eq_true rfl)⟩ hl.1 rfl rfl (Nat.le_of_ble_eq_true rfl) hw hS dX8_isBare_6 (fun v2 x_2 H locs t2 h hw hS => ?_)
  obtain ⟨b3, h⟩ := h
  refine y_iald C hw (acr_40 SB) t2 b3 dX8_isBare_9 (fun v3 t3 => ?_)
  refine y_iconst C dX8_isBare_10 ⟨by decide, by decide⟩ (fun v4 t4 => ?_)
  refine y_icmp_eq C t3 t4 dX8_isBare_11 (tgt := 31) (by decide) (fun c5 => ?_) (fun c5 => ?_)
  · have h := h.1 c5
    refine y_iconst C dX8_isBare_31 ⟨by decide, by decide⟩ (fun v6 t6 => ?_)
    exact y_zret C hw hS t6 (Or.inl rfl) ⟨h, rfl⟩ dX8_isBare_32
  · have h := h.2 c5
    refine lv_aload_n C.1.1 C.1.2.1 dX8_isBare_14 rfl (lv_at hl 0 rfl) ?_
    refine y_getA C fl_X8_128 hw (ocr SB) rfl (o := 30) rfl dX8_isBare_15 ?_
    refine lv_aload_n C.1.1 C.1.2.1 dX8_isBare_18 rfl (lv_at hl 0 rfl) ?_
    refine lv_iload_n C.1.1 C.1.2.1 dX8_isBare_19 rfl (lv_at hl 1 rfl) ?_
    refine y_cVIp C (As := [.int xv1]) (rest := [.ref (G.2.2 (1072))]) ml_X8_218 (kX8_m l G SB S xt1 h) (ocr SB) (T := TX8) (N := 60) rfl (by decide) ⟨(Nat.le_of_ble_eq_true rfl), (Nat.le_of_ble_eq_true rfl)⟩ hl.1 rfl rfl (Nat.le_of_ble_eq_true rfl) hw hS dX8_isBare_20 (fun v8 x_8 H locs t8 h hw hS => ?_)
    obtain ⟨b9, h⟩ := h
    refine y_iald C hw (acr_39 SB) t8 b9 dX8_isBare_23 (fun v9 t9 => ?_)
    refine y_if_eq C t9 dX8_isBare_24 (tgt := 31) (by decide) (fun c10 => ?_) (fun c10 => ?_)
    · have h := h.1 c10
      refine y_iconst C dX8_isBare_31 ⟨by decide, by decide⟩ (fun v11 t11 => ?_)
      exact y_zret C hw hS t11 (Or.inl rfl) ⟨h, rfl⟩ dX8_isBare_32
    · have h := h.2 c10
      refine y_iconst C dX8_isBare_27 ⟨by decide, by decide⟩ (fun v12 t12 => ?_)
      refine lv_goto (tgt := 32) C.1.1 C.1.2.1 dX8_isBare_28 (by decide) ?_
      exact y_zret C hw hS t12 (Or.inr rfl) ⟨h, rfl⟩ dX8_isBare_32
theorem kX8_isBare (l : Launch) (G : GG) (SB S : St) {xv1 : Int32} {x1 : Int} (xt1 : xv1.toInt = x1) {k : Int → Prop} (h : wX8_isBare S x1 k) : CnI l yX8_isBare cX8_isBare 2 (some .boolean) 1 21 G (injR SB) [.ref (G.2.2 1042), .int xv1] S (fun r u => k r ∧ u = S) :=
  cn_body (by decide +kernel) (Nat.le_of_ble_eq_true rfl) (fun p e s m args below meth c ls C hw hl => uX8_isBare_0 C hw va_S.rf xt1 (lv_sub hl [0, 1] rfl) h)
set_option maxHeartbeats 4000000 in
set_option maxRecDepth 10000 in
theorem uX8_overridesOne_66 {p : Program} {l : Launch} {e : Env} {s : State} {m : MethodId} {args : Array Value} {below : List Frame} {meth : Method} {c : Code} {G : GG} {SB : St} (C : Cx p s m args meth c G RX8 cX8_overridesOne 6 (some .boolean)) {S : St} {H : Heap} {locs : List Loc} {ls : Array Slot} {P15 : Int → Int → Prop} {k : Int → Prop} (hw : Wd G ((injR SB) S) H) (hS : va_S (AG G) s.heap H locs) {xv1 : Int32} {x1 : Int} (xt1 : xv1.toInt = x1) {xv2 : Int32} {x2 : Int} (xt2 : xv2.toInt = x2) {xv3 : Int32} {x3 : Int} (xt3 : xv3.toInt = x3) {xv5 : Int32} {x5 : Int} (xt5 : xv5.toInt = x5) (hl : lv_has ls 6 [(0, .ref (G.2.2 1042)), (1, .int xv1), (2, .int xv2), (3, .int xv3), (5, .int xv5)]) (hP15 : ∀ {H : Heap} {locs : List Loc} {ls : Array Slot} {yv4 : Int32} {y4 : Int} {yv5 : Int32} {y5 : Int}, yv4.toInt = y4 → yv5.toInt = y5 → Wd G ((injR SB) S) H → va_S (AG G) s.heap H locs → lv_has ls 6 [(0, .ref (G.2.2 1042)), (1, .int xv1), (2, .int xv2), (3, .int xv3), (4, .int yv4), (5, .int yv5)] → P15 y4 y5 → W p l e (rmF 2 43) s m args below meth c H locs 0 0 (MQ below (QcI G (injR SB) (fun r u => k r ∧ u = S)) args s 0 0 (AG G)) (F0 m 15 ls [])) (h : wX8_overridesOne_66 S x1 x2 x3 x5 P15 k) : W p l e (rmF 2 43) s m args below meth c H locs 0 0 (MQ below (QcI G (injR SB) (fun r u => k r ∧ u = S)) args s 0 0 (AG G)) (F0 m 66 ls []) := by
  refine y_iconst C dX8_overridesOne_66 ⟨by decide, by decide⟩ (fun v1 t1 => ?_)
  refine lv_goto (tgt := 71) C.1.1 C.1.2.1 dX8_overridesOne_67 (by decide) ?_
  refine lv_istore (lv' := [(4, .int v1), (0, .ref (G.2.2 1042)), (1, .int xv1), (2, .int xv2), (3, .int xv3), (5, .int xv5)]) C.1.1 C.1.2.1 dX8_overridesOne_71 hl (by decide) rfl (fun ls hl => ?_)
  obtain ⟨x_2, e2⟩ : ∃ z : Int, z = w32 (x5 + 1) := ⟨_, rfl⟩
  have h := h x_2 e2
  obtain ⟨v2, t2, g2⟩ : ∃ z : Int32, z.toInt = x_2 ∧ xv5 + Int32.ofInt 1 = z := ⟨_, (ti_inc xt5 ⟨by decide, by decide⟩).trans e2.symm, rfl⟩
  refine lv_iinc (v := v2) (lv' := [(5, .int v2), (4, .int v1), (0, .ref (G.2.2 1042)), (1, .int xv1), (2, .int xv2), (3, .int xv3)]) C.1.1 C.1.2.1 dX8_overridesOne_73 hl (k := 5) rfl g2 (by decide) rfl (fun ls hl => ?_)
  refine lv_goto (tgt := 15) C.1.1 C.1.2.1 dX8_overridesOne_76 (by decide) ?_
  exact hP15 t1 t2 hw hS (lv_sub hl [2, 3, 4, 5, 1, 0] rfl) h
set_option maxHeartbeats 4000000 in
set_option maxRecDepth 10000 in
theorem uX8_overridesOne_15_b {p : Program} {l : Launch} {e : Env} {s : State} {m : MethodId} {args : Array Value} {below : List Frame} {meth : Method} {c : Code} {G : GG} {SB : St} (C : Cx p s m args meth c G RX8 cX8_overridesOne 6 (some .boolean)) {S : St} {H : Heap} {locs : List Loc} {ls : Array Slot}  {P15 : Int → Int → Prop} {k : Int → Prop} (hw : Wd G ((injR SB) S) H) (hS : va_S (AG G) s.heap H locs) {xv1 : Int32} {x1 : Int} (xt1 : xv1.toInt = x1) {xv2 : Int32} {x2 : Int} (xt2 : xv2.toInt = x2) {xv3 : Int32} {x3 : Int} (xt3 : xv3.toInt = x3) {xv4 : Int32} {x4 : Int} (xt4 : xv4.toInt = x4) {xv5 : Int32} {x5 : Int} (xt5 : xv5.toInt = x5) (hl : lv_has ls 6 [(0, .ref (G.2.2 1042)), (1, .int xv1), (2, .int xv2), (3, .int xv3), (4, .int xv4), (5, .int xv5)])  (hP15 : ∀ {H : Heap} {locs : List Loc} {ls : Array Slot} {yv4 : Int32} {y4 : Int} {yv5 : Int32} {y5 : Int}, yv4.toInt = y4 → yv5.toInt = y5 → Wd G ((injR SB) S) H → va_S (AG G) s.heap H locs → lv_has ls 6 [(0, .ref (G.2.2 1042)), (1, .int xv1), (2, .int xv2), (3, .int xv3), (4, .int yv4), (5, .int yv5)] → P15 y4 y5 → W p l e (rmF 2 43) s m args below meth c H locs 0 0 (MQ below (QcI G (injR SB) (fun r u => k r ∧ u = S)) args s 0 0 (AG G)) (F0 m 15 ls [])) (h : wX8_overridesOne_15_b S x1 x2 x3 x4 x5 P15 k) : W p l e (rmF 2 43) s m args below meth c H locs 0 0 (MQ below (QcI G (injR SB) (fun r u => k r ∧ u = S)) args s 0 0 (AG G)) (F0 m 15 ls []) := by
  refine lv_iload C.1.1 C.1.2.1 dX8_overridesOne_15 (lv_at hl 5 rfl) ?_
  refine lv_aload_n C.1.1 C.1.2.1 dX8_overridesOne_17 rfl (lv_at hl 0 rfl) ?_
  refine y_getA C fl_X8_110 hw (ocr SB) rfl (o := 24) rfl dX8_overridesOne_18 ?_
  refine lv_aload_n C.1.1 C.1.2.1 dX8_overridesOne_21 rfl (lv_at hl 0 rfl) ?_
  refine lv_iload_n C.1.1 C.1.2.1 dX8_overridesOne_22 rfl (lv_at hl 1 rfl) ?_
  refine y_cVIp C (As := [.int xv1]) (rest := [.ref (G.2.2 (1066)), .int xv5]) ml_X8_214 (kX8_t l G SB S xt1 h) (ocr SB) (T := TX8) (N := 60) rfl (by decide) ⟨(Nat.le_of_ble_eq_true rfl), (Nat.le_of_ble_eq_true rfl)⟩ hl.1 rfl rfl (Nat.le_of_ble_eq_true rfl) hw hS dX8_overridesOne_23 (fun v2 x_2 H locs t2 h hw hS => ?_)
  obtain ⟨b3, h⟩ := h
  refine y_iald C hw (acr_33 SB) t2 b3 dX8_overridesOne_26 (fun v3 t3 => ?_)
  refine lv_aload_n C.1.1 C.1.2.1 dX8_overridesOne_27 rfl (lv_at hl 0 rfl) ?_
  refine y_getA C fl_X8_113 hw (ocr SB) rfl (o := 25) rfl dX8_overridesOne_28 ?_
  refine lv_aload_n C.1.1 C.1.2.1 dX8_overridesOne_31 rfl (lv_at hl 0 rfl) ?_
  refine lv_iload_n C.1.1 C.1.2.1 dX8_overridesOne_32 rfl (lv_at hl 1 rfl) ?_
  refine y_cVIp C (As := [.int xv1]) (rest := [.ref (G.2.2 (1067)), .int v3, .int xv5]) ml_X8_214 (kX8_t l G SB S xt1 h) (ocr SB) (T := TX8) (N := 60) rfl (by decide) ⟨(Nat.le_of_ble_eq_true rfl), (Nat.le_of_ble_eq_true rfl)⟩ hl.1 rfl rfl (Nat.le_of_ble_eq_true rfl) hw hS dX8_overridesOne_33 (fun v5 x_5 H locs t5 h hw hS => ?_)
  obtain ⟨b6, h⟩ := h
  refine y_iald C hw (acr_34 SB) t5 b6 dX8_overridesOne_36 (fun v6 t6 => ?_)
  refine y_iadd C t3 t6 dX8_overridesOne_37 (fun v7 t7 => ?_)
  refine y_icmp_ge C xt5 t7 dX8_overridesOne_38 (tgt := 79) (by decide) (fun c8 => ?_) (fun c8 => ?_)
  · have h := h.1 c8
    refine lv_iload C.1.1 C.1.2.1 dX8_overridesOne_79 (lv_at hl 4 rfl) ?_
    obtain ⟨z, h⟩ := h
    exact y_zret C hw hS xt4 z ⟨h, rfl⟩ dX8_overridesOne_81
  · have h := h.2 c8
    refine lv_iload C.1.1 C.1.2.1 dX8_overridesOne_41 (lv_at hl 4 rfl) ?_
    refine y_if_ne C xt4 dX8_overridesOne_43 (tgt := 66) (by decide) (fun c9 => ?_) (fun c9 => ?_)
    · have h := h.1 c9
      exact uX8_overridesOne_66 C hw hS xt1 xt2 xt3 xt5 (lv_sub hl [0, 1, 2, 3, 5] rfl) hP15 h
    · have h := h.2 c9
      refine lv_aload_n C.1.1 C.1.2.1 dX8_overridesOne_46 rfl (lv_at hl 0 rfl) ?_
      refine lv_iload C.1.1 C.1.2.1 dX8_overridesOne_47 (lv_at hl 5 rfl) ?_
      refine lv_iload_n C.1.1 C.1.2.1 dX8_overridesOne_49 rfl (lv_at hl 2 rfl) ?_
      refine y_cVIp C (As := [.int xv5, .int xv2]) (rest := []) ml_X8_329 (kX8_isOver l G SB S xt5 xt2 h) (ocr SB) (T := TX8) (N := 60) rfl (by decide) ⟨(Nat.le_of_ble_eq_true rfl), (Nat.le_of_ble_eq_true rfl)⟩ hl.1 rfl rfl (Nat.le_of_ble_eq_true rfl) hw hS dX8_overridesOne_50 (fun v10 x_10 H locs t10 h hw hS => ?_)
      refine y_if_ne C t10 dX8_overridesOne_53 (tgt := 66) (by decide) (fun c11 => ?_) (fun c11 => ?_)
      · have h := h.1 c11
        exact uX8_overridesOne_66 C hw hS xt1 xt2 xt3 xt5 (lv_sub hl [0, 1, 2, 3, 5] rfl) hP15 h
      · have h := h.2 c11
        refine lv_aload_n C.1.1 C.1.2.1 dX8_overridesOne_56 rfl (lv_at hl 0 rfl) ?_
        refine lv_iload C.1.1 C.1.2.1 dX8_overridesOne_57 (lv_at hl 5 rfl) ?_
        refine lv_iload_n C.1.1 C.1.2.1 dX8_overridesOne_59 rfl (lv_at hl 3 rfl) ?_
        refine y_cVIp C (As := [.int xv5, .int xv3]) (rest := []) ml_X8_329 (kX8_isOver l G SB S xt5 xt3 h) (ocr SB) (T := TX8) (N := 60) rfl (by decide) ⟨(Nat.le_of_ble_eq_true rfl), (Nat.le_of_ble_eq_true rfl)⟩ hl.1 rfl rfl (Nat.le_of_ble_eq_true rfl) hw hS dX8_overridesOne_60 (fun v12 x_12 H locs t12 h hw hS => ?_)
        refine y_if_eq C t12 dX8_overridesOne_63 (tgt := 70) (by decide) (fun c13 => ?_) (fun c13 => ?_)
        · have h := h.1 c13
          refine y_iconst C dX8_overridesOne_70 ⟨by decide, by decide⟩ (fun v14 t14 => ?_)
          refine lv_istore (lv' := [(4, .int v14), (0, .ref (G.2.2 1042)), (1, .int xv1), (2, .int xv2), (3, .int xv3), (5, .int xv5)]) C.1.1 C.1.2.1 dX8_overridesOne_71 hl (by decide) rfl (fun ls hl => ?_)
          obtain ⟨x_15, e15⟩ : ∃ z : Int, z = w32 (x5 + 1) := ⟨_, rfl⟩
          have h := h x_15 e15
          obtain ⟨v15, t15, g15⟩ : ∃ z : Int32, z.toInt = x_15 ∧ xv5 + Int32.ofInt 1 = z := ⟨_, (ti_inc xt5 ⟨by decide, by decide⟩).trans e15.symm, rfl⟩
          refine lv_iinc (v := v15) (lv' := [(5, .int v15), (4, .int v14), (0, .ref (G.2.2 1042)), (1, .int xv1), (2, .int xv2), (3, .int xv3)]) C.1.1 C.1.2.1 dX8_overridesOne_73 hl (k := 5) rfl g15 (by decide) rfl (fun ls hl => ?_)
          refine lv_goto (tgt := 15) C.1.1 C.1.2.1 dX8_overridesOne_76 (by decide) ?_
          exact hP15 t14 t15 hw hS (lv_sub hl [2, 3, 4, 5, 1, 0] rfl) h
        · have h := h.2 c13
          exact uX8_overridesOne_66 C hw hS xt1 xt2 xt3 xt5 (lv_sub hl [0, 1, 2, 3, 5] rfl) hP15 h
set_option maxHeartbeats 4000000 in
set_option maxRecDepth 10000 in
theorem uX8_overridesOne_15 {p : Program} {l : Launch} {e : Env} {s : State} {m : MethodId} {args : Array Value} {below : List Frame} {meth : Method} {c : Code} {G : GG} {SB : St} (C : Cx p s m args meth c G RX8 cX8_overridesOne 6 (some .boolean)) {S : St} {H : Heap} {locs : List Loc} {ls : Array Slot}  {k : Int → Prop} (hw : Wd G ((injR SB) S) H) (hS : va_S (AG G) s.heap H locs) {xv1 : Int32} {x1 : Int} (xt1 : xv1.toInt = x1) {xv2 : Int32} {x2 : Int} (xt2 : xv2.toInt = x2) {xv3 : Int32} {x3 : Int} (xt3 : xv3.toInt = x3) {xv4 : Int32} {x4 : Int} (xt4 : xv4.toInt = x4) {xv5 : Int32} {x5 : Int} (xt5 : xv5.toInt = x5) (hl : lv_has ls 6 [(0, .ref (G.2.2 1042)), (1, .int xv1), (2, .int xv2), (3, .int xv3), (4, .int xv4), (5, .int xv5)])  (h : wX8_overridesOne_15 S x1 x2 x3 x4 x5 k) : W p l e (rmF 2 43) s m args below meth c H locs 0 0 (MQ below (QcI G (injR SB) (fun r u => k r ∧ u = S)) args s 0 0 (AG G)) (F0 m 15 ls []) := by
  have key : ∀ (n : Nat) {H : Heap} {locs : List Loc} {ls : Array Slot} {xv4 : Int32} {x4 : Int} {xv5 : Int32} {x5 : Int}, xv4.toInt = x4 → xv5.toInt = x5 → Wd G ((injR SB) S) H → va_S (AG G) s.heap H locs → lv_has ls 6 [(0, .ref (G.2.2 1042)), (1, .int xv1), (2, .int xv2), (3, .int xv3), (4, .int xv4), (5, .int xv5)] → itP (fun (P : Int × Int → Prop) (a : Int × Int) => wX8_overridesOne_15_b S x1 x2 x3 a.1 a.2 (fun b0 b1 => P (b0, b1)) k) n (x4, x5) → W p l e (rmF 2 43) s m args below meth c H locs 0 0 (MQ below (QcI G (injR SB) (fun r u => k r ∧ u = S)) args s 0 0 (AG G)) (F0 m 15 ls []) := by
    intro n
    induction n with
    | zero => intro H locs ls xv4 x4 xv5 x5 xt4 xt5 hw hS hl h; exact h.elim
    | succ n ih =>
      intro H locs ls xv4 x4 xv5 x5 xt4 xt5 hw hS hl h
      exact uX8_overridesOne_15_b C hw hS xt1 xt2 xt3 xt4 xt5 hl  (P15 := fun b0 b1 => itP _ n (b0, b1)) (fun q0 q1 hw hS hl h => ih q0 q1 hw hS hl h) h
  obtain ⟨n, hn⟩ := h
  exact key n xt4 xt5 hw hS hl hn
set_option maxHeartbeats 4000000 in
set_option maxRecDepth 10000 in
theorem uX8_overridesOne_0 {p : Program} {l : Launch} {e : Env} {s : State} {m : MethodId} {args : Array Value} {below : List Frame} {meth : Method} {c : Code} {G : GG} {SB : St} (C : Cx p s m args meth c G RX8 cX8_overridesOne 6 (some .boolean)) {S : St} {H : Heap} {locs : List Loc} {ls : Array Slot}  {k : Int → Prop} (hw : Wd G ((injR SB) S) H) (hS : va_S (AG G) s.heap H locs) {xv1 : Int32} {x1 : Int} (xt1 : xv1.toInt = x1) {xv2 : Int32} {x2 : Int} (xt2 : xv2.toInt = x2) {xv3 : Int32} {x3 : Int} (xt3 : xv3.toInt = x3) (hl : lv_has ls 6 [(0, .ref (G.2.2 1042)), (1, .int xv1), (2, .int xv2), (3, .int xv3)])  (h : wX8_overridesOne_0 S x1 x2 x3 k) : W p l e (rmF 2 43) s m args below meth c H locs 0 0 (MQ below (QcI G (injR SB) (fun r u => k r ∧ u = S)) args s 0 0 (AG G)) (F0 m 0 ls []) := by
  refine y_iconst C dX8_overridesOne_0 ⟨by decide, by decide⟩ (fun v1 t1 => ?_)
  refine lv_istore (lv' := [(4, .int v1), (0, .ref (G.2.2 1042)), (1, .int xv1), (2, .int xv2), (3, .int xv3)]) C.1.1 C.1.2.1 dX8_overridesOne_1 hl (by decide) rfl (fun ls hl => ?_)
  refine lv_aload_n C.1.1 C.1.2.1 dX8_overridesOne_3 rfl (lv_at hl 1 rfl) ?_
  refine y_getA C fl_X8_110 hw (ocr SB) rfl (o := 24) rfl dX8_overridesOne_4 ?_
  refine lv_aload_n C.1.1 C.1.2.1 dX8_overridesOne_7 rfl (lv_at hl 1 rfl) ?_
  refine lv_iload_n C.1.1 C.1.2.1 dX8_overridesOne_8 rfl (lv_at hl 2 rfl) ?_
  refine y_cVIp C (As := [.int xv1]) (rest := [.ref (G.2.2 (1066))]) ml_X8_214 (kX8_t l G SB S xt1 h) (ocr SB) (T := TX8) (N := 60) rfl (by decide) ⟨(Nat.le_of_ble_eq_true rfl), (Nat.le_of_ble_eq_true rfl)⟩ hl.1 rfl rfl (Nat.le_of_ble_eq_true rfl) hw hS dX8_overridesOne_9 (fun v3 x_3 H locs t3 h hw hS => ?_)
  obtain ⟨b4, h⟩ := h
  refine y_iald C hw (acr_33 SB) t3 b4 dX8_overridesOne_12 (fun v4 t4 => ?_)
  obtain ⟨x_5, e5⟩ : ∃ z : Int, z = S 24 x_3 := ⟨_, rfl⟩
  have h := h x_5 e5
  have t5 := t4.trans e5.symm
  refine lv_istore (lv' := [(5, .int v4), (4, .int v1), (0, .ref (G.2.2 1042)), (1, .int xv1), (2, .int xv2), (3, .int xv3)]) C.1.1 C.1.2.1 dX8_overridesOne_13 hl (by decide) rfl (fun ls hl => ?_)
  exact uX8_overridesOne_15 C hw hS xt1 xt2 xt3 t1 t5 (lv_sub hl [2, 3, 4, 5, 1, 0] rfl)  h
theorem kX8_overridesOne (l : Launch) (G : GG) (SB S : St) {xv1 : Int32} {x1 : Int} (xt1 : xv1.toInt = x1) {xv2 : Int32} {x2 : Int} (xt2 : xv2.toInt = x2) {xv3 : Int32} {x3 : Int} (xt3 : xv3.toInt = x3) {k : Int → Prop} (h : wX8_overridesOne S x1 x2 x3 k) : CnI l yX8_overridesOne cX8_overridesOne 6 (some .boolean) 2 43 G (injR SB) [.ref (G.2.2 1042), .int xv1, .int xv2, .int xv3] S (fun r u => k r ∧ u = S) :=
  cn_body (by decide +kernel) (Nat.le_of_ble_eq_true rfl) (fun p e s m args below meth c ls C hw hl => uX8_overridesOne_0 C hw va_S.rf xt1 xt2 xt3 (lv_sub hl [0, 1, 2, 3] rfl) h)
set_option maxHeartbeats 4000000 in
set_option maxRecDepth 10000 in
theorem uX8_clashes_185 {p : Program} {l : Launch} {e : Env} {s : State} {m : MethodId} {args : Array Value} {below : List Frame} {meth : Method} {c : Code} {G : GG} {SB : St} (C : Cx p s m args meth c G RX8 cX8_clashes 8 (some .boolean)) {S : St} {H : Heap} {locs : List Loc} {ls : Array Slot} {P16 : Int → Int → Prop} {P28 : Int → Int → Prop} {k : Int → Prop} (hw : Wd G ((injR SB) S) H) (hS : va_S (AG G) s.heap H locs) {xv1 : Int32} {x1 : Int} (xt1 : xv1.toInt = x1) {xv2 : Int32} {x2 : Int} (xt2 : xv2.toInt = x2) {xv4 : Int32} {x4 : Int} (xt4 : xv4.toInt = x4) {xv5 : Int32} {x5 : Int} (xt5 : xv5.toInt = x5) (hl : lv_has ls 8 [(0, .ref (G.2.2 1042)), (1, .int xv1), (2, .int xv2), (4, .int xv4), (5, .int xv5)]) (hP16 : ∀ {H : Heap} {locs : List Loc} {ls : Array Slot} {yv3 : Int32} {y3 : Int} {yv4 : Int32} {y4 : Int}, yv3.toInt = y3 → yv4.toInt = y4 → Wd G ((injR SB) S) H → va_S (AG G) s.heap H locs → lv_has ls 8 [(0, .ref (G.2.2 1042)), (1, .int xv1), (2, .int xv2), (3, .int yv3), (4, .int yv4)] → P16 y3 y4 → W p l e (rmF 4 93) s m args below meth c H locs 0 0 (MQ below (QcI G (injR SB) (fun r u => k r ∧ u = S)) args s 0 0 (AG G)) (F0 m 16 ls [])) (hP28 : ∀ {H : Heap} {locs : List Loc} {ls : Array Slot} {yv3 : Int32} {y3 : Int} {yv5 : Int32} {y5 : Int}, yv3.toInt = y3 → yv5.toInt = y5 → Wd G ((injR SB) S) H → va_S (AG G) s.heap H locs → lv_has ls 8 [(0, .ref (G.2.2 1042)), (1, .int xv1), (2, .int xv2), (3, .int yv3), (4, .int xv4), (5, .int yv5)] → P28 y3 y5 → W p l e (rmF 4 93) s m args below meth c H locs 0 0 (MQ below (QcI G (injR SB) (fun r u => k r ∧ u = S)) args s 0 0 (AG G)) (F0 m 28 ls [])) (h : wX8_clashes_185 S x1 x2 x4 x5 P16 P28 k) : W p l e (rmF 4 93) s m args below meth c H locs 0 0 (MQ below (QcI G (injR SB) (fun r u => k r ∧ u = S)) args s 0 0 (AG G)) (F0 m 185 ls []) := by
  refine y_iconst C dX8_clashes_185 ⟨by decide, by decide⟩ (fun v1 t1 => ?_)
  refine lv_goto (tgt := 190) C.1.1 C.1.2.1 dX8_clashes_186 (by decide) ?_
  refine lv_istore_n (lv' := [(3, .int v1), (0, .ref (G.2.2 1042)), (1, .int xv1), (2, .int xv2), (4, .int xv4), (5, .int xv5)]) C.1.1 C.1.2.1 dX8_clashes_190 rfl hl (by decide) rfl (fun ls hl => ?_)
  obtain ⟨x_2, e2⟩ : ∃ z : Int, z = w32 (x5 + 1) := ⟨_, rfl⟩
  have h := h x_2 e2
  obtain ⟨v2, t2, g2⟩ : ∃ z : Int32, z.toInt = x_2 ∧ xv5 + Int32.ofInt 1 = z := ⟨_, (ti_inc xt5 ⟨by decide, by decide⟩).trans e2.symm, rfl⟩
  refine lv_iinc (v := v2) (lv' := [(5, .int v2), (3, .int v1), (0, .ref (G.2.2 1042)), (1, .int xv1), (2, .int xv2), (4, .int xv4)]) C.1.1 C.1.2.1 dX8_clashes_191 hl (k := 5) rfl g2 (by decide) rfl (fun ls hl => ?_)
  refine lv_goto (tgt := 28) C.1.1 C.1.2.1 dX8_clashes_194 (by decide) ?_
  exact hP28 t1 t2 hw hS (lv_sub hl [2, 3, 4, 1, 5, 0] rfl) h
set_option maxHeartbeats 4000000 in
set_option maxRecDepth 10000 in
theorem uX8_clashes_28_b {p : Program} {l : Launch} {e : Env} {s : State} {m : MethodId} {args : Array Value} {below : List Frame} {meth : Method} {c : Code} {G : GG} {SB : St} (C : Cx p s m args meth c G RX8 cX8_clashes 8 (some .boolean)) {S : St} {H : Heap} {locs : List Loc} {ls : Array Slot} {P16 : Int → Int → Prop} {P28 : Int → Int → Prop} {k : Int → Prop} (hw : Wd G ((injR SB) S) H) (hS : va_S (AG G) s.heap H locs) {xv1 : Int32} {x1 : Int} (xt1 : xv1.toInt = x1) {xv2 : Int32} {x2 : Int} (xt2 : xv2.toInt = x2) {xv3 : Int32} {x3 : Int} (xt3 : xv3.toInt = x3) {xv4 : Int32} {x4 : Int} (xt4 : xv4.toInt = x4) {xv5 : Int32} {x5 : Int} (xt5 : xv5.toInt = x5) (hl : lv_has ls 8 [(0, .ref (G.2.2 1042)), (1, .int xv1), (2, .int xv2), (3, .int xv3), (4, .int xv4), (5, .int xv5)]) (hP16 : ∀ {H : Heap} {locs : List Loc} {ls : Array Slot} {yv3 : Int32} {y3 : Int} {yv4 : Int32} {y4 : Int}, yv3.toInt = y3 → yv4.toInt = y4 → Wd G ((injR SB) S) H → va_S (AG G) s.heap H locs → lv_has ls 8 [(0, .ref (G.2.2 1042)), (1, .int xv1), (2, .int xv2), (3, .int yv3), (4, .int yv4)] → P16 y3 y4 → W p l e (rmF 4 93) s m args below meth c H locs 0 0 (MQ below (QcI G (injR SB) (fun r u => k r ∧ u = S)) args s 0 0 (AG G)) (F0 m 16 ls [])) (hP28 : ∀ {H : Heap} {locs : List Loc} {ls : Array Slot} {yv3 : Int32} {y3 : Int} {yv5 : Int32} {y5 : Int}, yv3.toInt = y3 → yv5.toInt = y5 → Wd G ((injR SB) S) H → va_S (AG G) s.heap H locs → lv_has ls 8 [(0, .ref (G.2.2 1042)), (1, .int xv1), (2, .int xv2), (3, .int yv3), (4, .int xv4), (5, .int yv5)] → P28 y3 y5 → W p l e (rmF 4 93) s m args below meth c H locs 0 0 (MQ below (QcI G (injR SB) (fun r u => k r ∧ u = S)) args s 0 0 (AG G)) (F0 m 28 ls [])) (h : wX8_clashes_28_b S x1 x2 x3 x4 x5 P16 P28 k) : W p l e (rmF 4 93) s m args below meth c H locs 0 0 (MQ below (QcI G (injR SB) (fun r u => k r ∧ u = S)) args s 0 0 (AG G)) (F0 m 28 ls []) := by
  refine lv_iload C.1.1 C.1.2.1 dX8_clashes_28 (lv_at hl 5 rfl) ?_
  refine lv_iload_n C.1.1 C.1.2.1 dX8_clashes_30 rfl (lv_at hl 2 rfl) ?_
  refine y_icmp_ge C xt5 xt2 dX8_clashes_31 (tgt := 197) (by decide) (fun c1 => ?_) (fun c1 => ?_)
  · have h := h.1 c1
    obtain ⟨x_2, e2⟩ : ∃ z : Int, z = w32 (x4 + 1) := ⟨_, rfl⟩
    have h := h x_2 e2
    obtain ⟨v2, t2, g2⟩ : ∃ z : Int32, z.toInt = x_2 ∧ xv4 + Int32.ofInt 1 = z := ⟨_, (ti_inc xt4 ⟨by decide, by decide⟩).trans e2.symm, rfl⟩
    refine lv_iinc (v := v2) (lv' := [(4, .int v2), (0, .ref (G.2.2 1042)), (1, .int xv1), (2, .int xv2), (3, .int xv3), (5, .int xv5)]) C.1.1 C.1.2.1 dX8_clashes_197 hl (k := 4) rfl g2 (by decide) rfl (fun ls hl => ?_)
    refine lv_goto (tgt := 16) C.1.1 C.1.2.1 dX8_clashes_200 (by decide) ?_
    exact hP16 xt3 t2 hw hS (lv_sub hl [1, 2, 3, 4, 0] rfl) h
  · have h := h.2 c1
    refine lv_aload_n C.1.1 C.1.2.1 dX8_clashes_34 rfl (lv_at hl 0 rfl) ?_
    refine y_getA C fl_X8_122 hw (ocr SB) rfl (o := 28) rfl dX8_clashes_35 ?_
    refine lv_aload_n C.1.1 C.1.2.1 dX8_clashes_38 rfl (lv_at hl 0 rfl) ?_
    refine lv_iload C.1.1 C.1.2.1 dX8_clashes_39 (lv_at hl 4 rfl) ?_
    refine y_cVIp C (As := [.int xv4]) (rest := [.ref (G.2.2 (1070))]) ml_X8_218 (kX8_m l G SB S xt4 h) (ocr SB) (T := TX8) (N := 60) rfl (by decide) ⟨(Nat.le_of_ble_eq_true rfl), (Nat.le_of_ble_eq_true rfl)⟩ hl.1 rfl rfl (Nat.le_of_ble_eq_true rfl) hw hS dX8_clashes_41 (fun v4 x_4 H locs t4 h hw hS => ?_)
    obtain ⟨b5, h⟩ := h
    refine y_iald C hw (acr_37 SB) t4 b5 dX8_clashes_44 (fun v5 t5 => ?_)
    obtain ⟨x_6, e6⟩ : ∃ z : Int, z = S 28 x_4 := ⟨_, rfl⟩
    have h := h x_6 e6
    have t6 := t5.trans e6.symm
    refine lv_istore (lv' := [(6, .int v5), (0, .ref (G.2.2 1042)), (1, .int xv1), (2, .int xv2), (3, .int xv3), (4, .int xv4), (5, .int xv5)]) C.1.1 C.1.2.1 dX8_clashes_45 hl (by decide) rfl (fun ls hl => ?_)
    refine lv_aload_n C.1.1 C.1.2.1 dX8_clashes_47 rfl (lv_at hl 1 rfl) ?_
    refine y_getA C fl_X8_122 hw (ocr SB) rfl (o := 28) rfl dX8_clashes_48 ?_
    refine lv_aload_n C.1.1 C.1.2.1 dX8_clashes_51 rfl (lv_at hl 1 rfl) ?_
    refine lv_iload C.1.1 C.1.2.1 dX8_clashes_52 (lv_at hl 6 rfl) ?_
    refine y_cVIp C (As := [.int xv5]) (rest := [.ref (G.2.2 (1070))]) ml_X8_218 (kX8_m l G SB S xt5 h) (ocr SB) (T := TX8) (N := 60) rfl (by decide) ⟨(Nat.le_of_ble_eq_true rfl), (Nat.le_of_ble_eq_true rfl)⟩ hl.1 rfl rfl (Nat.le_of_ble_eq_true rfl) hw hS dX8_clashes_54 (fun v8 x_8 H locs t8 h hw hS => ?_)
    obtain ⟨b9, h⟩ := h
    refine y_iald C hw (acr_37 SB) t8 b9 dX8_clashes_57 (fun v9 t9 => ?_)
    obtain ⟨x_10, e10⟩ : ∃ z : Int, z = S 28 x_8 := ⟨_, rfl⟩
    have h := h x_10 e10
    have t10 := t9.trans e10.symm
    refine lv_istore (lv' := [(7, .int v9), (6, .int v5), (0, .ref (G.2.2 1042)), (1, .int xv1), (2, .int xv2), (3, .int xv3), (4, .int xv4), (5, .int xv5)]) C.1.1 C.1.2.1 dX8_clashes_58 hl (by decide) rfl (fun ls hl => ?_)
    refine lv_aload_n C.1.1 C.1.2.1 dX8_clashes_60 rfl (lv_at hl 2 rfl) ?_
    refine y_getA C fl_X8_103 hw (ocr SB) rfl (o := 22) rfl dX8_clashes_61 ?_
    refine y_bipush C dX8_clashes_64 ⟨by decide, by decide⟩ (fun v12 t12 => ?_)
    refine lv_aload_n C.1.1 C.1.2.1 dX8_clashes_66 rfl (lv_at hl 2 rfl) ?_
    refine lv_iload_n C.1.1 C.1.2.1 dX8_clashes_67 rfl (lv_at hl 3 rfl) ?_
    refine y_cVIp C (As := [.int xv1]) (rest := [.int v12, .ref (G.2.2 (1064))]) ml_X8_214 (kX8_t l G SB S xt1 h) (ocr SB) (T := TX8) (N := 60) rfl (by decide) ⟨(Nat.le_of_ble_eq_true rfl), (Nat.le_of_ble_eq_true rfl)⟩ hl.1 rfl rfl (Nat.le_of_ble_eq_true rfl) hw hS dX8_clashes_68 (fun v13 x_13 H locs t13 h hw hS => ?_)
    refine y_imul C t12 t13 dX8_clashes_71 (fun v14 t14 => ?_)
    refine lv_iload C.1.1 C.1.2.1 dX8_clashes_72 (lv_at hl 1 rfl) ?_
    refine y_iadd C t14 t6 dX8_clashes_74 (fun v15 t15 => ?_)
    obtain ⟨b16, h⟩ := h
    refine y_zald C hw (acr_31 SB) t15 b16 dX8_clashes_75 (fun v16 t16 => ?_)
    refine y_if_eq C t16 dX8_clashes_76 (tgt := 191) (by decide) (fun c17 => ?_) (fun c17 => ?_)
    · have h := h.1 c17
      obtain ⟨x_18, e18⟩ : ∃ z : Int, z = w32 (x5 + 1) := ⟨_, rfl⟩
      have h := h x_18 e18
      obtain ⟨v18, t18, g18⟩ : ∃ z : Int32, z.toInt = x_18 ∧ xv5 + Int32.ofInt 1 = z := ⟨_, (ti_inc xt5 ⟨by decide, by decide⟩).trans e18.symm, rfl⟩
      refine lv_iinc (v := v18) (lv' := [(5, .int v18), (7, .int v9), (6, .int v5), (0, .ref (G.2.2 1042)), (1, .int xv1), (2, .int xv2), (3, .int xv3), (4, .int xv4)]) C.1.1 C.1.2.1 dX8_clashes_191 hl (k := 7) rfl g18 (by decide) rfl (fun ls hl => ?_)
      refine lv_goto (tgt := 28) C.1.1 C.1.2.1 dX8_clashes_194 (by decide) ?_
      exact hP28 xt3 t18 hw hS (lv_sub hl [3, 4, 5, 6, 7, 0] rfl) h
    · have h := h.2 c17
      refine lv_aload_n C.1.1 C.1.2.1 dX8_clashes_79 rfl (lv_at hl 2 rfl) ?_
      refine y_getA C fl_X8_103 hw (ocr SB) rfl (o := 22) rfl dX8_clashes_80 ?_
      refine y_bipush C dX8_clashes_83 ⟨by decide, by decide⟩ (fun v20 t20 => ?_)
      refine lv_aload_n C.1.1 C.1.2.1 dX8_clashes_85 rfl (lv_at hl 2 rfl) ?_
      refine lv_iload_n C.1.1 C.1.2.1 dX8_clashes_86 rfl (lv_at hl 3 rfl) ?_
      refine y_cVIp C (As := [.int xv1]) (rest := [.int v20, .ref (G.2.2 (1064))]) ml_X8_214 (kX8_t l G SB S xt1 h) (ocr SB) (T := TX8) (N := 60) rfl (by decide) ⟨(Nat.le_of_ble_eq_true rfl), (Nat.le_of_ble_eq_true rfl)⟩ hl.1 rfl rfl (Nat.le_of_ble_eq_true rfl) hw hS dX8_clashes_87 (fun v21 x_21 H locs t21 h hw hS => ?_)
      refine y_imul C t20 t21 dX8_clashes_90 (fun v22 t22 => ?_)
      refine lv_iload C.1.1 C.1.2.1 dX8_clashes_91 (lv_at hl 0 rfl) ?_
      refine y_iadd C t22 t10 dX8_clashes_93 (fun v23 t23 => ?_)
      obtain ⟨b24, h⟩ := h
      refine y_zald C hw (acr_31 SB) t23 b24 dX8_clashes_94 (fun v24 t24 => ?_)
      refine y_if_eq C t24 dX8_clashes_95 (tgt := 191) (by decide) (fun c25 => ?_) (fun c25 => ?_)
      · have h := h.1 c25
        obtain ⟨x_26, e26⟩ : ∃ z : Int, z = w32 (x5 + 1) := ⟨_, rfl⟩
        have h := h x_26 e26
        obtain ⟨v26, t26, g26⟩ : ∃ z : Int32, z.toInt = x_26 ∧ xv5 + Int32.ofInt 1 = z := ⟨_, (ti_inc xt5 ⟨by decide, by decide⟩).trans e26.symm, rfl⟩
        refine lv_iinc (v := v26) (lv' := [(5, .int v26), (7, .int v9), (6, .int v5), (0, .ref (G.2.2 1042)), (1, .int xv1), (2, .int xv2), (3, .int xv3), (4, .int xv4)]) C.1.1 C.1.2.1 dX8_clashes_191 hl (k := 7) rfl g26 (by decide) rfl (fun ls hl => ?_)
        refine lv_goto (tgt := 28) C.1.1 C.1.2.1 dX8_clashes_194 (by decide) ?_
        exact hP28 xt3 t26 hw hS (lv_sub hl [3, 4, 5, 6, 7, 0] rfl) h
      · have h := h.2 c25
        refine lv_aload_n C.1.1 C.1.2.1 dX8_clashes_98 rfl (lv_at hl 2 rfl) ?_
        refine lv_iload C.1.1 C.1.2.1 dX8_clashes_99 (lv_at hl 1 rfl) ?_
        refine lv_iload C.1.1 C.1.2.1 dX8_clashes_101 (lv_at hl 0 rfl) ?_
        refine y_cVIp C (As := [.int v5, .int v9]) (rest := []) ml_X8_335 (kX8_isUnder l G SB S t6 t10 h) (ocr SB) (T := TX8) (N := 60) rfl (by decide) ⟨(Nat.le_of_ble_eq_true rfl), (Nat.le_of_ble_eq_true rfl)⟩ hl.1 rfl rfl (Nat.le_of_ble_eq_true rfl) hw hS dX8_clashes_103 (fun v27 x_27 H locs t27 h hw hS => ?_)
        refine y_if_ne C t27 dX8_clashes_106 (tgt := 191) (by decide) (fun c28 => ?_) (fun c28 => ?_)
        · have h := h.1 c28
          obtain ⟨x_29, e29⟩ : ∃ z : Int, z = w32 (x5 + 1) := ⟨_, rfl⟩
          have h := h x_29 e29
          obtain ⟨v29, t29, g29⟩ : ∃ z : Int32, z.toInt = x_29 ∧ xv5 + Int32.ofInt 1 = z := ⟨_, (ti_inc xt5 ⟨by decide, by decide⟩).trans e29.symm, rfl⟩
          refine lv_iinc (v := v29) (lv' := [(5, .int v29), (7, .int v9), (6, .int v5), (0, .ref (G.2.2 1042)), (1, .int xv1), (2, .int xv2), (3, .int xv3), (4, .int xv4)]) C.1.1 C.1.2.1 dX8_clashes_191 hl (k := 7) rfl g29 (by decide) rfl (fun ls hl => ?_)
          refine lv_goto (tgt := 28) C.1.1 C.1.2.1 dX8_clashes_194 (by decide) ?_
          exact hP28 xt3 t29 hw hS (lv_sub hl [3, 4, 5, 6, 7, 0] rfl) h
        · have h := h.2 c28
          refine lv_aload_n C.1.1 C.1.2.1 dX8_clashes_109 rfl (lv_at hl 2 rfl) ?_
          refine lv_iload C.1.1 C.1.2.1 dX8_clashes_110 (lv_at hl 0 rfl) ?_
          refine lv_iload C.1.1 C.1.2.1 dX8_clashes_112 (lv_at hl 1 rfl) ?_
          refine y_cVIp C (As := [.int v9, .int v5]) (rest := []) ml_X8_335 (kX8_isUnder l G SB S t10 t6 h) (ocr SB) (T := TX8) (N := 60) rfl (by decide) ⟨(Nat.le_of_ble_eq_true rfl), (Nat.le_of_ble_eq_true rfl)⟩ hl.1 rfl rfl (Nat.le_of_ble_eq_true rfl) hw hS dX8_clashes_114 (fun v30 x_30 H locs t30 h hw hS => ?_)
          refine y_if_ne C t30 dX8_clashes_117 (tgt := 191) (by decide) (fun c31 => ?_) (fun c31 => ?_)
          · have h := h.1 c31
            obtain ⟨x_32, e32⟩ : ∃ z : Int, z = w32 (x5 + 1) := ⟨_, rfl⟩
            have h := h x_32 e32
            obtain ⟨v32, t32, g32⟩ : ∃ z : Int32, z.toInt = x_32 ∧ xv5 + Int32.ofInt 1 = z := ⟨_, (ti_inc xt5 ⟨by decide, by decide⟩).trans e32.symm, rfl⟩
            refine lv_iinc (v := v32) (lv' := [(5, .int v32), (7, .int v9), (6, .int v5), (0, .ref (G.2.2 1042)), (1, .int xv1), (2, .int xv2), (3, .int xv3), (4, .int xv4)]) C.1.1 C.1.2.1 dX8_clashes_191 hl (k := 7) rfl g32 (by decide) rfl (fun ls hl => ?_)
            refine lv_goto (tgt := 28) C.1.1 C.1.2.1 dX8_clashes_194 (by decide) ?_
            exact hP28 xt3 t32 hw hS (lv_sub hl [3, 4, 5, 6, 7, 0] rfl) h
          · have h := h.2 c31
            refine lv_aload_n C.1.1 C.1.2.1 dX8_clashes_120 rfl (lv_at hl 2 rfl) ?_
            refine lv_iload C.1.1 C.1.2.1 dX8_clashes_121 (lv_at hl 6 rfl) ?_
            refine y_cVIp C (As := [.int xv4]) (rest := []) ml_X8_341 (kX8_isBare l G SB S xt4 h) (ocr SB) (T := TX8) (N := 60) rfl (by decide) ⟨(Nat.le_of_ble_eq_true rfl), (Nat.le_of_ble_eq_true rfl)⟩ hl.1 rfl rfl (Nat.le_of_ble_eq_true rfl) hw hS dX8_clashes_123 (fun v33 x_33 H locs t33 h hw hS => ?_)
            refine y_if_eq C t33 dX8_clashes_126 (tgt := 191) (by decide) (fun c34 => ?_) (fun c34 => ?_)
            · have h := h.1 c34
              obtain ⟨x_35, e35⟩ : ∃ z : Int, z = w32 (x5 + 1) := ⟨_, rfl⟩
              have h := h x_35 e35
              obtain ⟨v35, t35, g35⟩ : ∃ z : Int32, z.toInt = x_35 ∧ xv5 + Int32.ofInt 1 = z := ⟨_, (ti_inc xt5 ⟨by decide, by decide⟩).trans e35.symm, rfl⟩
              refine lv_iinc (v := v35) (lv' := [(5, .int v35), (7, .int v9), (6, .int v5), (0, .ref (G.2.2 1042)), (1, .int xv1), (2, .int xv2), (3, .int xv3), (4, .int xv4)]) C.1.1 C.1.2.1 dX8_clashes_191 hl (k := 7) rfl g35 (by decide) rfl (fun ls hl => ?_)
              refine lv_goto (tgt := 28) C.1.1 C.1.2.1 dX8_clashes_194 (by decide) ?_
              exact hP28 xt3 t35 hw hS (lv_sub hl [3, 4, 5, 6, 7, 0] rfl) h
            · have h := h.2 c34
              refine lv_aload_n C.1.1 C.1.2.1 dX8_clashes_129 rfl (lv_at hl 2 rfl) ?_
              refine lv_iload C.1.1 C.1.2.1 dX8_clashes_130 (lv_at hl 7 rfl) ?_
              refine y_cVIp C (As := [.int xv5]) (rest := []) ml_X8_341 (kX8_isBare l G SB S xt5 h) (ocr SB) (T := TX8) (N := 60) rfl (by decide) ⟨(Nat.le_of_ble_eq_true rfl), (Nat.le_of_ble_eq_true rfl)⟩ hl.1 rfl rfl (Nat.le_of_ble_eq_true rfl) hw hS dX8_clashes_132 (fun v36 x_36 H locs t36 h hw hS => ?_)
              refine y_if_eq C t36 dX8_clashes_135 (tgt := 191) (by decide) (fun c37 => ?_) (fun c37 => ?_)
              · have h := h.1 c37
                obtain ⟨x_38, e38⟩ : ∃ z : Int, z = w32 (x5 + 1) := ⟨_, rfl⟩
                have h := h x_38 e38
                obtain ⟨v38, t38, g38⟩ : ∃ z : Int32, z.toInt = x_38 ∧ xv5 + Int32.ofInt 1 = z := ⟨_, (ti_inc xt5 ⟨by decide, by decide⟩).trans e38.symm, rfl⟩
                refine lv_iinc (v := v38) (lv' := [(5, .int v38), (7, .int v9), (6, .int v5), (0, .ref (G.2.2 1042)), (1, .int xv1), (2, .int xv2), (3, .int xv3), (4, .int xv4)]) C.1.1 C.1.2.1 dX8_clashes_191 hl (k := 7) rfl g38 (by decide) rfl (fun ls hl => ?_)
                refine lv_goto (tgt := 28) C.1.1 C.1.2.1 dX8_clashes_194 (by decide) ?_
                exact hP28 xt3 t38 hw hS (lv_sub hl [3, 4, 5, 6, 7, 0] rfl) h
              · have h := h.2 c37
                refine lv_aload_n C.1.1 C.1.2.1 dX8_clashes_138 rfl (lv_at hl 2 rfl) ?_
                refine lv_iload_n C.1.1 C.1.2.1 dX8_clashes_139 rfl (lv_at hl 3 rfl) ?_
                refine lv_iload C.1.1 C.1.2.1 dX8_clashes_140 (lv_at hl 6 rfl) ?_
                refine lv_iload C.1.1 C.1.2.1 dX8_clashes_142 (lv_at hl 7 rfl) ?_
                refine y_cVIp C (As := [.int xv1, .int xv4, .int xv5]) (rest := []) ml_X8_326 (kX8_isLike l G SB S xt1 xt4 xt5 h) (ocr SB) (T := TX8) (N := 60) rfl (by decide) ⟨(Nat.le_of_ble_eq_true rfl), (Nat.le_of_ble_eq_true rfl)⟩ hl.1 rfl rfl (Nat.le_of_ble_eq_true rfl) hw hS dX8_clashes_144 (fun v39 x_39 H locs t39 h hw hS => ?_)
                refine y_if_eq C t39 dX8_clashes_147 (tgt := 191) (by decide) (fun c40 => ?_) (fun c40 => ?_)
                · have h := h.1 c40
                  obtain ⟨x_41, e41⟩ : ∃ z : Int, z = w32 (x5 + 1) := ⟨_, rfl⟩
                  have h := h x_41 e41
                  obtain ⟨v41, t41, g41⟩ : ∃ z : Int32, z.toInt = x_41 ∧ xv5 + Int32.ofInt 1 = z := ⟨_, (ti_inc xt5 ⟨by decide, by decide⟩).trans e41.symm, rfl⟩
                  refine lv_iinc (v := v41) (lv' := [(5, .int v41), (7, .int v9), (6, .int v5), (0, .ref (G.2.2 1042)), (1, .int xv1), (2, .int xv2), (3, .int xv3), (4, .int xv4)]) C.1.1 C.1.2.1 dX8_clashes_191 hl (k := 7) rfl g41 (by decide) rfl (fun ls hl => ?_)
                  refine lv_goto (tgt := 28) C.1.1 C.1.2.1 dX8_clashes_194 (by decide) ?_
                  exact hP28 xt3 t41 hw hS (lv_sub hl [3, 4, 5, 6, 7, 0] rfl) h
                · have h := h.2 c40
                  refine lv_aload_n C.1.1 C.1.2.1 dX8_clashes_150 rfl (lv_at hl 2 rfl) ?_
                  refine lv_iload_n C.1.1 C.1.2.1 dX8_clashes_151 rfl (lv_at hl 3 rfl) ?_
                  refine lv_iload C.1.1 C.1.2.1 dX8_clashes_152 (lv_at hl 6 rfl) ?_
                  refine y_iconst C dX8_clashes_154 ⟨by decide, by decide⟩ (fun v42 t42 => ?_)
                  refine y_cVIp C (As := [.int xv1, .int xv4, .int v42]) (rest := []) ml_X8_229 (kX8_kindSeen l G SB S xt1 xt4 t42 h) (ocr SB) (T := TX8) (N := 60) rfl (by decide) ⟨(Nat.le_of_ble_eq_true rfl), (Nat.le_of_ble_eq_true rfl)⟩ hl.1 rfl rfl (Nat.le_of_ble_eq_true rfl) hw hS dX8_clashes_155 (fun v43 x_43 H locs t43 h hw hS => ?_)
                  refine lv_aload_n C.1.1 C.1.2.1 dX8_clashes_158 rfl (lv_at hl 2 rfl) ?_
                  refine lv_iload_n C.1.1 C.1.2.1 dX8_clashes_159 rfl (lv_at hl 3 rfl) ?_
                  refine lv_iload C.1.1 C.1.2.1 dX8_clashes_160 (lv_at hl 7 rfl) ?_
                  refine y_iconst C dX8_clashes_162 ⟨by decide, by decide⟩ (fun v44 t44 => ?_)
                  refine y_cVIp C (As := [.int xv1, .int xv5, .int v44]) (rest := [.int v43]) ml_X8_229 (kX8_kindSeen l G SB S xt1 xt5 t44 h) (ocr SB) (T := TX8) (N := 60) rfl (by decide) ⟨(Nat.le_of_ble_eq_true rfl), (Nat.le_of_ble_eq_true rfl)⟩ hl.1 rfl rfl (Nat.le_of_ble_eq_true rfl) hw hS dX8_clashes_163 (fun v45 x_45 H locs t45 h hw hS => ?_)
                  refine y_icmp_eq C t43 t45 dX8_clashes_166 (tgt := 191) (by decide) (fun c46 => ?_) (fun c46 => ?_)
                  · have h := h.1 c46
                    obtain ⟨x_47, e47⟩ : ∃ z : Int, z = w32 (x5 + 1) := ⟨_, rfl⟩
                    have h := h x_47 e47
                    obtain ⟨v47, t47, g47⟩ : ∃ z : Int32, z.toInt = x_47 ∧ xv5 + Int32.ofInt 1 = z := ⟨_, (ti_inc xt5 ⟨by decide, by decide⟩).trans e47.symm, rfl⟩
                    refine lv_iinc (v := v47) (lv' := [(5, .int v47), (7, .int v9), (6, .int v5), (0, .ref (G.2.2 1042)), (1, .int xv1), (2, .int xv2), (3, .int xv3), (4, .int xv4)]) C.1.1 C.1.2.1 dX8_clashes_191 hl (k := 7) rfl g47 (by decide) rfl (fun ls hl => ?_)
                    refine lv_goto (tgt := 28) C.1.1 C.1.2.1 dX8_clashes_194 (by decide) ?_
                    exact hP28 xt3 t47 hw hS (lv_sub hl [3, 4, 5, 6, 7, 0] rfl) h
                  · have h := h.2 c46
                    refine lv_iload_n C.1.1 C.1.2.1 dX8_clashes_169 rfl (lv_at hl 5 rfl) ?_
                    refine y_if_ne C xt3 dX8_clashes_170 (tgt := 185) (by decide) (fun c48 => ?_) (fun c48 => ?_)
                    · have h := h.1 c48
                      exact uX8_clashes_185 C hw hS xt1 xt2 xt4 xt5 (lv_sub hl [2, 3, 4, 6, 7] rfl) hP16 hP28 h
                    · have h := h.2 c48
                      refine lv_aload_n C.1.1 C.1.2.1 dX8_clashes_173 rfl (lv_at hl 2 rfl) ?_
                      refine lv_iload_n C.1.1 C.1.2.1 dX8_clashes_174 rfl (lv_at hl 3 rfl) ?_
                      refine lv_iload C.1.1 C.1.2.1 dX8_clashes_175 (lv_at hl 6 rfl) ?_
                      refine lv_iload C.1.1 C.1.2.1 dX8_clashes_177 (lv_at hl 7 rfl) ?_
                      refine y_cVIp C (As := [.int xv1, .int xv4, .int xv5]) (rest := []) ml_X8_344 (kX8_overridesOne l G SB S xt1 xt4 xt5 h) (ocr SB) (T := TX8) (N := 60) rfl (by decide) ⟨(Nat.le_of_ble_eq_true rfl), (Nat.le_of_ble_eq_true rfl)⟩ hl.1 rfl rfl (Nat.le_of_ble_eq_true rfl) hw hS dX8_clashes_179 (fun v49 x_49 H locs t49 h hw hS => ?_)
                      refine y_if_ne C t49 dX8_clashes_182 (tgt := 189) (by decide) (fun c50 => ?_) (fun c50 => ?_)
                      · have h := h.1 c50
                        refine y_iconst C dX8_clashes_189 ⟨by decide, by decide⟩ (fun v51 t51 => ?_)
                        refine lv_istore_n (lv' := [(3, .int v51), (7, .int v9), (6, .int v5), (0, .ref (G.2.2 1042)), (1, .int xv1), (2, .int xv2), (4, .int xv4), (5, .int xv5)]) C.1.1 C.1.2.1 dX8_clashes_190 rfl hl (by decide) rfl (fun ls hl => ?_)
                        obtain ⟨x_52, e52⟩ : ∃ z : Int, z = w32 (x5 + 1) := ⟨_, rfl⟩
                        have h := h x_52 e52
                        obtain ⟨v52, t52, g52⟩ : ∃ z : Int32, z.toInt = x_52 ∧ xv5 + Int32.ofInt 1 = z := ⟨_, (ti_inc xt5 ⟨by decide, by decide⟩).trans e52.symm, rfl⟩
                        refine lv_iinc (v := v52) (lv' := [(5, .int v52), (3, .int v51), (7, .int v9), (6, .int v5), (0, .ref (G.2.2 1042)), (1, .int xv1), (2, .int xv2), (4, .int xv4)]) C.1.1 C.1.2.1 dX8_clashes_191 hl (k := 7) rfl g52 (by decide) rfl (fun ls hl => ?_)
                        refine lv_goto (tgt := 28) C.1.1 C.1.2.1 dX8_clashes_194 (by decide) ?_
                        exact hP28 t51 t52 hw hS (lv_sub hl [4, 5, 6, 1, 7, 0] rfl) h
                      · have h := h.2 c50
                        exact uX8_clashes_185 C hw hS xt1 xt2 xt4 xt5 (lv_sub hl [2, 3, 4, 6, 7] rfl) hP16 hP28 h
set_option maxHeartbeats 4000000 in
set_option maxRecDepth 10000 in
theorem uX8_clashes_28 {p : Program} {l : Launch} {e : Env} {s : State} {m : MethodId} {args : Array Value} {below : List Frame} {meth : Method} {c : Code} {G : GG} {SB : St} (C : Cx p s m args meth c G RX8 cX8_clashes 8 (some .boolean)) {S : St} {H : Heap} {locs : List Loc} {ls : Array Slot} {P16 : Int → Int → Prop} {k : Int → Prop} (hw : Wd G ((injR SB) S) H) (hS : va_S (AG G) s.heap H locs) {xv1 : Int32} {x1 : Int} (xt1 : xv1.toInt = x1) {xv2 : Int32} {x2 : Int} (xt2 : xv2.toInt = x2) {xv3 : Int32} {x3 : Int} (xt3 : xv3.toInt = x3) {xv4 : Int32} {x4 : Int} (xt4 : xv4.toInt = x4) {xv5 : Int32} {x5 : Int} (xt5 : xv5.toInt = x5) (hl : lv_has ls 8 [(0, .ref (G.2.2 1042)), (1, .int xv1), (2, .int xv2), (3, .int xv3), (4, .int xv4), (5, .int xv5)]) (hP16 : ∀ {H : Heap} {locs : List Loc} {ls : Array Slot} {yv3 : Int32} {y3 : Int} {yv4 : Int32} {y4 : Int}, yv3.toInt = y3 → yv4.toInt = y4 → Wd G ((injR SB) S) H → va_S (AG G) s.heap H locs → lv_has ls 8 [(0, .ref (G.2.2 1042)), (1, .int xv1), (2, .int xv2), (3, .int yv3), (4, .int yv4)] → P16 y3 y4 → W p l e (rmF 4 93) s m args below meth c H locs 0 0 (MQ below (QcI G (injR SB) (fun r u => k r ∧ u = S)) args s 0 0 (AG G)) (F0 m 16 ls [])) (h : wX8_clashes_28 S x1 x2 x3 x4 x5 P16 k) : W p l e (rmF 4 93) s m args below meth c H locs 0 0 (MQ below (QcI G (injR SB) (fun r u => k r ∧ u = S)) args s 0 0 (AG G)) (F0 m 28 ls []) := by
  have key : ∀ (n : Nat) {H : Heap} {locs : List Loc} {ls : Array Slot} {xv3 : Int32} {x3 : Int} {xv5 : Int32} {x5 : Int}, xv3.toInt = x3 → xv5.toInt = x5 → Wd G ((injR SB) S) H → va_S (AG G) s.heap H locs → lv_has ls 8 [(0, .ref (G.2.2 1042)), (1, .int xv1), (2, .int xv2), (3, .int xv3), (4, .int xv4), (5, .int xv5)] → itP (fun (P : Int × Int → Prop) (a : Int × Int) => wX8_clashes_28_b S x1 x2 a.1 x4 a.2 P16 (fun b0 b1 => P (b0, b1)) k) n (x3, x5) → W p l e (rmF 4 93) s m args below meth c H locs 0 0 (MQ below (QcI G (injR SB) (fun r u => k r ∧ u = S)) args s 0 0 (AG G)) (F0 m 28 ls []) := by
    intro n
    induction n with
    | zero => intro H locs ls xv3 x3 xv5 x5 xt3 xt5 hw hS hl h; exact h.elim
    | succ n ih =>
      intro H locs ls xv3 x3 xv5 x5 xt3 xt5 hw hS hl h
      exact uX8_clashes_28_b C hw hS xt1 xt2 xt3 xt4 xt5 hl hP16 (P28 := fun b0 b1 => itP _ n (b0, b1)) (fun q0 q1 hw hS hl h => ih q0 q1 hw hS hl h) h
  obtain ⟨n, hn⟩ := h
  exact key n xt3 xt5 hw hS hl hn
set_option maxHeartbeats 4000000 in
set_option maxRecDepth 10000 in
theorem uX8_clashes_16_b {p : Program} {l : Launch} {e : Env} {s : State} {m : MethodId} {args : Array Value} {below : List Frame} {meth : Method} {c : Code} {G : GG} {SB : St} (C : Cx p s m args meth c G RX8 cX8_clashes 8 (some .boolean)) {S : St} {H : Heap} {locs : List Loc} {ls : Array Slot}  {P16 : Int → Int → Prop} {k : Int → Prop} (hw : Wd G ((injR SB) S) H) (hS : va_S (AG G) s.heap H locs) {xv1 : Int32} {x1 : Int} (xt1 : xv1.toInt = x1) {xv2 : Int32} {x2 : Int} (xt2 : xv2.toInt = x2) {xv3 : Int32} {x3 : Int} (xt3 : xv3.toInt = x3) {xv4 : Int32} {x4 : Int} (xt4 : xv4.toInt = x4) (hl : lv_has ls 8 [(0, .ref (G.2.2 1042)), (1, .int xv1), (2, .int xv2), (3, .int xv3), (4, .int xv4)])  (hP16 : ∀ {H : Heap} {locs : List Loc} {ls : Array Slot} {yv3 : Int32} {y3 : Int} {yv4 : Int32} {y4 : Int}, yv3.toInt = y3 → yv4.toInt = y4 → Wd G ((injR SB) S) H → va_S (AG G) s.heap H locs → lv_has ls 8 [(0, .ref (G.2.2 1042)), (1, .int xv1), (2, .int xv2), (3, .int yv3), (4, .int yv4)] → P16 y3 y4 → W p l e (rmF 4 93) s m args below meth c H locs 0 0 (MQ below (QcI G (injR SB) (fun r u => k r ∧ u = S)) args s 0 0 (AG G)) (F0 m 16 ls [])) (h : wX8_clashes_16_b S x1 x2 x3 x4 P16 k) : W p l e (rmF 4 93) s m args below meth c H locs 0 0 (MQ below (QcI G (injR SB) (fun r u => k r ∧ u = S)) args s 0 0 (AG G)) (F0 m 16 ls []) := by
  refine lv_iload C.1.1 C.1.2.1 dX8_clashes_16 (lv_at hl 4 rfl) ?_
  refine lv_iload_n C.1.1 C.1.2.1 dX8_clashes_18 rfl (lv_at hl 2 rfl) ?_
  refine y_icmp_ge C xt4 xt2 dX8_clashes_19 (tgt := 203) (by decide) (fun c1 => ?_) (fun c1 => ?_)
  · have h := h.1 c1
    refine lv_iload_n C.1.1 C.1.2.1 dX8_clashes_203 rfl (lv_at hl 3 rfl) ?_
    obtain ⟨z, h⟩ := h
    exact y_zret C hw hS xt3 z ⟨h, rfl⟩ dX8_clashes_204
  · have h := h.2 c1
    refine lv_iload C.1.1 C.1.2.1 dX8_clashes_22 (lv_at hl 4 rfl) ?_
    refine y_iconst C dX8_clashes_24 ⟨by decide, by decide⟩ (fun v2 t2 => ?_)
    refine y_iadd C xt4 t2 dX8_clashes_25 (fun v3 t3 => ?_)
    obtain ⟨x_4, e4⟩ : ∃ z : Int, z = w32 (x4 + 1) := ⟨_, rfl⟩
    have h := h x_4 e4
    have t4 := t3.trans e4.symm
    refine lv_istore (lv' := [(5, .int v3), (0, .ref (G.2.2 1042)), (1, .int xv1), (2, .int xv2), (3, .int xv3), (4, .int xv4)]) C.1.1 C.1.2.1 dX8_clashes_26 hl (by decide) rfl (fun ls hl => ?_)
    exact uX8_clashes_28 C hw hS xt1 xt2 xt3 xt4 t4 (lv_sub hl [1, 2, 3, 4, 5, 0] rfl) hP16 h
set_option maxHeartbeats 4000000 in
set_option maxRecDepth 10000 in
theorem uX8_clashes_16 {p : Program} {l : Launch} {e : Env} {s : State} {m : MethodId} {args : Array Value} {below : List Frame} {meth : Method} {c : Code} {G : GG} {SB : St} (C : Cx p s m args meth c G RX8 cX8_clashes 8 (some .boolean)) {S : St} {H : Heap} {locs : List Loc} {ls : Array Slot}  {k : Int → Prop} (hw : Wd G ((injR SB) S) H) (hS : va_S (AG G) s.heap H locs) {xv1 : Int32} {x1 : Int} (xt1 : xv1.toInt = x1) {xv2 : Int32} {x2 : Int} (xt2 : xv2.toInt = x2) {xv3 : Int32} {x3 : Int} (xt3 : xv3.toInt = x3) {xv4 : Int32} {x4 : Int} (xt4 : xv4.toInt = x4) (hl : lv_has ls 8 [(0, .ref (G.2.2 1042)), (1, .int xv1), (2, .int xv2), (3, .int xv3), (4, .int xv4)])  (h : wX8_clashes_16 S x1 x2 x3 x4 k) : W p l e (rmF 4 93) s m args below meth c H locs 0 0 (MQ below (QcI G (injR SB) (fun r u => k r ∧ u = S)) args s 0 0 (AG G)) (F0 m 16 ls []) := by
  have key : ∀ (n : Nat) {H : Heap} {locs : List Loc} {ls : Array Slot} {xv3 : Int32} {x3 : Int} {xv4 : Int32} {x4 : Int}, xv3.toInt = x3 → xv4.toInt = x4 → Wd G ((injR SB) S) H → va_S (AG G) s.heap H locs → lv_has ls 8 [(0, .ref (G.2.2 1042)), (1, .int xv1), (2, .int xv2), (3, .int xv3), (4, .int xv4)] → itP (fun (P : Int × Int → Prop) (a : Int × Int) => wX8_clashes_16_b S x1 x2 a.1 a.2 (fun b0 b1 => P (b0, b1)) k) n (x3, x4) → W p l e (rmF 4 93) s m args below meth c H locs 0 0 (MQ below (QcI G (injR SB) (fun r u => k r ∧ u = S)) args s 0 0 (AG G)) (F0 m 16 ls []) := by
    intro n
    induction n with
    | zero => intro H locs ls xv3 x3 xv4 x4 xt3 xt4 hw hS hl h; exact h.elim
    | succ n ih =>
      intro H locs ls xv3 x3 xv4 x4 xt3 xt4 hw hS hl h
      exact uX8_clashes_16_b C hw hS xt1 xt2 xt3 xt4 hl  (P16 := fun b0 b1 => itP _ n (b0, b1)) (fun q0 q1 hw hS hl h => ih q0 q1 hw hS hl h) h
  obtain ⟨n, hn⟩ := h
  exact key n xt3 xt4 hw hS hl hn
set_option maxHeartbeats 4000000 in
set_option maxRecDepth 10000 in
theorem uX8_clashes_0 {p : Program} {l : Launch} {e : Env} {s : State} {m : MethodId} {args : Array Value} {below : List Frame} {meth : Method} {c : Code} {G : GG} {SB : St} (C : Cx p s m args meth c G RX8 cX8_clashes 8 (some .boolean)) {S : St} {H : Heap} {locs : List Loc} {ls : Array Slot}  {k : Int → Prop} (hw : Wd G ((injR SB) S) H) (hS : va_S (AG G) s.heap H locs) {xv1 : Int32} {x1 : Int} (xt1 : xv1.toInt = x1) (hl : lv_has ls 8 [(0, .ref (G.2.2 1042)), (1, .int xv1)])  (h : wX8_clashes_0 S x1 k) : W p l e (rmF 4 93) s m args below meth c H locs 0 0 (MQ below (QcI G (injR SB) (fun r u => k r ∧ u = S)) args s 0 0 (AG G)) (F0 m 0 ls []) := by
  refine lv_aload_n C.1.1 C.1.2.1 dX8_clashes_0 rfl (lv_at hl 0 rfl) ?_
  refine y_getA C fl_X8_110 hw (ocr SB) rfl (o := 24) rfl dX8_clashes_1 ?_
  refine lv_aload_n C.1.1 C.1.2.1 dX8_clashes_4 rfl (lv_at hl 0 rfl) ?_
  refine lv_iload_n C.1.1 C.1.2.1 dX8_clashes_5 rfl (lv_at hl 1 rfl) ?_
  refine y_cVIp C (As := [.int xv1]) (rest := [.ref (G.2.2 (1066))]) ml_X8_214 (kX8_t l G SB S xt1 h) (ocr SB) (T := TX8) (N := 60) rfl (by decide) ⟨(Nat.le_of_ble_eq_true rfl), (Nat.le_of_ble_eq_true rfl)⟩ hl.1 rfl rfl (Nat.le_of_ble_eq_true rfl) hw hS dX8_clashes_6 (fun v2 x_2 H locs t2 h hw hS => ?_)
  obtain ⟨b3, h⟩ := h
  refine y_iald C hw (acr_33 SB) t2 b3 dX8_clashes_9 (fun v3 t3 => ?_)
  obtain ⟨x_4, e4⟩ : ∃ z : Int, z = S 24 x_2 := ⟨_, rfl⟩
  have h := h x_4 e4
  have t4 := t3.trans e4.symm
  refine lv_istore_n (lv' := [(2, .int v3), (0, .ref (G.2.2 1042)), (1, .int xv1)]) C.1.1 C.1.2.1 dX8_clashes_10 rfl hl (by decide) rfl (fun ls hl => ?_)
  refine y_iconst C dX8_clashes_11 ⟨by decide, by decide⟩ (fun v5 t5 => ?_)
  refine lv_istore_n (lv' := [(3, .int v5), (2, .int v3), (0, .ref (G.2.2 1042)), (1, .int xv1)]) C.1.1 C.1.2.1 dX8_clashes_12 rfl hl (by decide) rfl (fun ls hl => ?_)
  refine y_iconst C dX8_clashes_13 ⟨by decide, by decide⟩ (fun v6 t6 => ?_)
  refine lv_istore (lv' := [(4, .int v6), (3, .int v5), (2, .int v3), (0, .ref (G.2.2 1042)), (1, .int xv1)]) C.1.1 C.1.2.1 dX8_clashes_14 hl (by decide) rfl (fun ls hl => ?_)
  exact uX8_clashes_16 C hw hS xt1 t4 t5 t6 (lv_sub hl [3, 4, 2, 1, 0] rfl)  h
theorem kX8_clashes (l : Launch) (G : GG) (SB S : St) {xv1 : Int32} {x1 : Int} (xt1 : xv1.toInt = x1) {k : Int → Prop} (h : wX8_clashes S x1 k) : CnI l yX8_clashes cX8_clashes 8 (some .boolean) 4 93 G (injR SB) [.ref (G.2.2 1042), .int xv1] S (fun r u => k r ∧ u = S) :=
  cn_body (by decide +kernel) (Nat.le_of_ble_eq_true rfl) (fun p e s m args below meth c ls C hw hl => uX8_clashes_0 C hw va_S.rf xt1 (lv_sub hl [0, 1] rfl) h)
set_option maxHeartbeats 4000000 in
set_option maxRecDepth 10000 in
theorem uX8_hasSought_50 {p : Program} {l : Launch} {e : Env} {s : State} {m : MethodId} {args : Array Value} {below : List Frame} {meth : Method} {c : Code} {G : GG} {SB : St} (C : Cx p s m args meth c G RX8 cX8_hasSought 6 (some .boolean)) {S : St} {H : Heap} {locs : List Loc} {ls : Array Slot} {P17 : Int → Int → Prop} {k : Int → Prop} (hw : Wd G ((injR SB) S) H) (hS : va_S (AG G) s.heap H locs) {xv2 : Int32} {x2 : Int} (xt2 : xv2.toInt = x2) {xv3 : Int32} {x3 : Int} (xt3 : xv3.toInt = x3) {xv5 : Int32} {x5 : Int} (xt5 : xv5.toInt = x5) (hl : lv_has ls 6 [(0, .ref (G.2.2 1042)), (2, .int xv2), (3, .int xv3), (5, .int xv5)]) (hP17 : ∀ {H : Heap} {locs : List Loc} {ls : Array Slot} {yv4 : Int32} {y4 : Int} {yv5 : Int32} {y5 : Int}, yv4.toInt = y4 → yv5.toInt = y5 → Wd G ((injR SB) S) H → va_S (AG G) s.heap H locs → lv_has ls 6 [(0, .ref (G.2.2 1042)), (2, .int xv2), (3, .int xv3), (4, .int yv4), (5, .int yv5)] → P17 y4 y5 → W p l e (rmF 5 111) s m args below meth c H locs 0 0 (MQ below (QcI G (injR SB) (fun r u => k r ∧ u = S)) args s 0 0 (AG G)) (F0 m 17 ls [])) (h : wX8_hasSought_50 S x2 x3 x5 P17 k) : W p l e (rmF 5 111) s m args below meth c H locs 0 0 (MQ below (QcI G (injR SB) (fun r u => k r ∧ u = S)) args s 0 0 (AG G)) (F0 m 50 ls []) := by
  refine y_iconst C dX8_hasSought_50 ⟨by decide, by decide⟩ (fun v1 t1 => ?_)
  refine lv_goto (tgt := 55) C.1.1 C.1.2.1 dX8_hasSought_51 (by decide) ?_
  refine lv_istore (lv' := [(4, .int v1), (0, .ref (G.2.2 1042)), (2, .int xv2), (3, .int xv3), (5, .int xv5)]) C.1.1 C.1.2.1 dX8_hasSought_55 hl (by decide) rfl (fun ls hl => ?_)
  obtain ⟨x_2, e2⟩ : ∃ z : Int, z = w32 (x5 + 1) := ⟨_, rfl⟩
  have h := h x_2 e2
  obtain ⟨v2, t2, g2⟩ : ∃ z : Int32, z.toInt = x_2 ∧ xv5 + Int32.ofInt 1 = z := ⟨_, (ti_inc xt5 ⟨by decide, by decide⟩).trans e2.symm, rfl⟩
  refine lv_iinc (v := v2) (lv' := [(5, .int v2), (4, .int v1), (0, .ref (G.2.2 1042)), (2, .int xv2), (3, .int xv3)]) C.1.1 C.1.2.1 dX8_hasSought_57 hl (k := 4) rfl g2 (by decide) rfl (fun ls hl => ?_)
  refine lv_goto (tgt := 17) C.1.1 C.1.2.1 dX8_hasSought_60 (by decide) ?_
  exact hP17 t1 t2 hw hS (lv_sub hl [2, 3, 4, 1, 0] rfl) h
set_option maxHeartbeats 4000000 in
set_option maxRecDepth 10000 in
theorem uX8_hasSought_113 {p : Program} {l : Launch} {e : Env} {s : State} {m : MethodId} {args : Array Value} {below : List Frame} {meth : Method} {c : Code} {G : GG} {SB : St} (C : Cx p s m args meth c G RX8 cX8_hasSought 6 (some .boolean)) {S : St} {H : Heap} {locs : List Loc} {ls : Array Slot} {P66 : Int → Int → Prop} {k : Int → Prop} (hw : Wd G ((injR SB) S) H) (hS : va_S (AG G) s.heap H locs) {xv2 : Int32} {x2 : Int} (xt2 : xv2.toInt = x2) {xv3 : Int32} {x3 : Int} (xt3 : xv3.toInt = x3) {xv5 : Int32} {x5 : Int} (xt5 : xv5.toInt = x5) (hl : lv_has ls 6 [(0, .ref (G.2.2 1042)), (2, .int xv2), (3, .int xv3), (5, .int xv5)]) (hP66 : ∀ {H : Heap} {locs : List Loc} {ls : Array Slot} {yv4 : Int32} {y4 : Int} {yv5 : Int32} {y5 : Int}, yv4.toInt = y4 → yv5.toInt = y5 → Wd G ((injR SB) S) H → va_S (AG G) s.heap H locs → lv_has ls 6 [(0, .ref (G.2.2 1042)), (2, .int xv2), (3, .int xv3), (4, .int yv4), (5, .int yv5)] → P66 y4 y5 → W p l e (rmF 5 111) s m args below meth c H locs 0 0 (MQ below (QcI G (injR SB) (fun r u => k r ∧ u = S)) args s 0 0 (AG G)) (F0 m 66 ls [])) (h : wX8_hasSought_113 S x2 x3 x5 P66 k) : W p l e (rmF 5 111) s m args below meth c H locs 0 0 (MQ below (QcI G (injR SB) (fun r u => k r ∧ u = S)) args s 0 0 (AG G)) (F0 m 113 ls []) := by
  refine y_iconst C dX8_hasSought_113 ⟨by decide, by decide⟩ (fun v1 t1 => ?_)
  refine lv_goto (tgt := 118) C.1.1 C.1.2.1 dX8_hasSought_114 (by decide) ?_
  refine lv_istore (lv' := [(4, .int v1), (0, .ref (G.2.2 1042)), (2, .int xv2), (3, .int xv3), (5, .int xv5)]) C.1.1 C.1.2.1 dX8_hasSought_118 hl (by decide) rfl (fun ls hl => ?_)
  obtain ⟨x_2, e2⟩ : ∃ z : Int, z = w32 (x5 + 1) := ⟨_, rfl⟩
  have h := h x_2 e2
  obtain ⟨v2, t2, g2⟩ : ∃ z : Int32, z.toInt = x_2 ∧ xv5 + Int32.ofInt 1 = z := ⟨_, (ti_inc xt5 ⟨by decide, by decide⟩).trans e2.symm, rfl⟩
  refine lv_iinc (v := v2) (lv' := [(5, .int v2), (4, .int v1), (0, .ref (G.2.2 1042)), (2, .int xv2), (3, .int xv3)]) C.1.1 C.1.2.1 dX8_hasSought_120 hl (k := 4) rfl g2 (by decide) rfl (fun ls hl => ?_)
  refine lv_goto (tgt := 66) C.1.1 C.1.2.1 dX8_hasSought_123 (by decide) ?_
  exact hP66 t1 t2 hw hS (lv_sub hl [2, 3, 4, 1, 0] rfl) h
set_option maxHeartbeats 4000000 in
set_option maxRecDepth 10000 in
theorem uX8_hasSought_66_b {p : Program} {l : Launch} {e : Env} {s : State} {m : MethodId} {args : Array Value} {below : List Frame} {meth : Method} {c : Code} {G : GG} {SB : St} (C : Cx p s m args meth c G RX8 cX8_hasSought 6 (some .boolean)) {S : St} {H : Heap} {locs : List Loc} {ls : Array Slot}  {P66 : Int → Int → Prop} {k : Int → Prop} (hw : Wd G ((injR SB) S) H) (hS : va_S (AG G) s.heap H locs) {xv2 : Int32} {x2 : Int} (xt2 : xv2.toInt = x2) {xv3 : Int32} {x3 : Int} (xt3 : xv3.toInt = x3) {xv4 : Int32} {x4 : Int} (xt4 : xv4.toInt = x4) {xv5 : Int32} {x5 : Int} (xt5 : xv5.toInt = x5) (hl : lv_has ls 6 [(0, .ref (G.2.2 1042)), (2, .int xv2), (3, .int xv3), (4, .int xv4), (5, .int xv5)])  (hP66 : ∀ {H : Heap} {locs : List Loc} {ls : Array Slot} {yv4 : Int32} {y4 : Int} {yv5 : Int32} {y5 : Int}, yv4.toInt = y4 → yv5.toInt = y5 → Wd G ((injR SB) S) H → va_S (AG G) s.heap H locs → lv_has ls 6 [(0, .ref (G.2.2 1042)), (2, .int xv2), (3, .int xv3), (4, .int yv4), (5, .int yv5)] → P66 y4 y5 → W p l e (rmF 5 111) s m args below meth c H locs 0 0 (MQ below (QcI G (injR SB) (fun r u => k r ∧ u = S)) args s 0 0 (AG G)) (F0 m 66 ls [])) (h : wX8_hasSought_66_b S x2 x3 x4 x5 P66 k) : W p l e (rmF 5 111) s m args below meth c H locs 0 0 (MQ below (QcI G (injR SB) (fun r u => k r ∧ u = S)) args s 0 0 (AG G)) (F0 m 66 ls []) := by
  refine lv_iload C.1.1 C.1.2.1 dX8_hasSought_66 (lv_at hl 4 rfl) ?_
  refine lv_aload_n C.1.1 C.1.2.1 dX8_hasSought_68 rfl (lv_at hl 0 rfl) ?_
  refine y_getA C fl_X8_119 hw (ocr SB) rfl (o := 27) rfl dX8_hasSought_69 ?_
  refine lv_iload_n C.1.1 C.1.2.1 dX8_hasSought_72 rfl (lv_at hl 2 rfl) ?_
  obtain ⟨b2, h⟩ := h
  refine y_iald C hw (acr_36 SB) xt3 b2 dX8_hasSought_73 (fun v2 t2 => ?_)
  refine y_icmp_ge C xt5 t2 dX8_hasSought_74 (tgt := 126) (by decide) (fun c3 => ?_) (fun c3 => ?_)
  · have h := h.1 c3
    refine lv_iload C.1.1 C.1.2.1 dX8_hasSought_126 (lv_at hl 3 rfl) ?_
    obtain ⟨z, h⟩ := h
    exact y_zret C hw hS xt4 z ⟨h, rfl⟩ dX8_hasSought_128
  · have h := h.2 c3
    refine lv_iload C.1.1 C.1.2.1 dX8_hasSought_77 (lv_at hl 3 rfl) ?_
    refine y_if_ne C xt4 dX8_hasSought_79 (tgt := 113) (by decide) (fun c4 => ?_) (fun c4 => ?_)
    · have h := h.1 c4
      exact uX8_hasSought_113 C hw hS xt2 xt3 xt5 (lv_sub hl [0, 1, 2, 4] rfl) hP66 h
    · have h := h.2 c4
      refine lv_aload_n C.1.1 C.1.2.1 dX8_hasSought_82 rfl (lv_at hl 0 rfl) ?_
      refine lv_aload_n C.1.1 C.1.2.1 dX8_hasSought_83 rfl (lv_at hl 0 rfl) ?_
      refine y_getA C fl_X8_146 hw (ocr SB) rfl (o := 36) rfl dX8_hasSought_84 ?_
      refine y_sipush C dX8_hasSought_87 ⟨by decide, by decide⟩ (fun v6 t6 => ?_)
      refine lv_aload_n C.1.1 C.1.2.1 dX8_hasSought_90 rfl (lv_at hl 0 rfl) ?_
      refine y_getI C fl_X8_208 hw (ocr SB) rfl dX8_hasSought_91 (fun v7 t7 => ?_)
      refine y_imul C t6 t7 dX8_hasSought_94 (fun v8 t8 => ?_)
      refine lv_aload_n C.1.1 C.1.2.1 dX8_hasSought_95 rfl (lv_at hl 0 rfl) ?_
      refine y_getA C fl_X8_116 hw (ocr SB) rfl (o := 26) rfl dX8_hasSought_96 ?_
      refine lv_iload_n C.1.1 C.1.2.1 dX8_hasSought_99 rfl (lv_at hl 2 rfl) ?_
      obtain ⟨b10, h⟩ := h
      refine y_iald C hw (acr_35 SB) xt3 b10 dX8_hasSought_100 (fun v10 t10 => ?_)
      refine y_iadd C t8 t10 dX8_hasSought_101 (fun v11 t11 => ?_)
      refine lv_iload C.1.1 C.1.2.1 dX8_hasSought_102 (lv_at hl 4 rfl) ?_
      refine y_iadd C t11 xt5 dX8_hasSought_104 (fun v12 t12 => ?_)
      obtain ⟨b13, h⟩ := h
      refine y_iald C hw (acr_45 SB) t12 b13 dX8_hasSought_105 (fun v13 t13 => ?_)
      refine lv_iload_n C.1.1 C.1.2.1 dX8_hasSought_106 rfl (lv_at hl 1 rfl) ?_
      refine y_cVIp C (As := [.int v13, .int xv2]) (rest := []) ml_X8_347 (kX8_isSought l G SB S t13 xt2 h) (ocr SB) (T := TX8) (N := 60) rfl (by decide) ⟨(Nat.le_of_ble_eq_true rfl), (Nat.le_of_ble_eq_true rfl)⟩ hl.1 rfl rfl (Nat.le_of_ble_eq_true rfl) hw hS dX8_hasSought_107 (fun v14 x_14 H locs t14 h hw hS => ?_)
      refine y_if_eq C t14 dX8_hasSought_110 (tgt := 117) (by decide) (fun c15 => ?_) (fun c15 => ?_)
      · have h := h.1 c15
        refine y_iconst C dX8_hasSought_117 ⟨by decide, by decide⟩ (fun v16 t16 => ?_)
        refine lv_istore (lv' := [(4, .int v16), (0, .ref (G.2.2 1042)), (2, .int xv2), (3, .int xv3), (5, .int xv5)]) C.1.1 C.1.2.1 dX8_hasSought_118 hl (by decide) rfl (fun ls hl => ?_)
        obtain ⟨x_17, e17⟩ : ∃ z : Int, z = w32 (x5 + 1) := ⟨_, rfl⟩
        have h := h x_17 e17
        obtain ⟨v17, t17, g17⟩ : ∃ z : Int32, z.toInt = x_17 ∧ xv5 + Int32.ofInt 1 = z := ⟨_, (ti_inc xt5 ⟨by decide, by decide⟩).trans e17.symm, rfl⟩
        refine lv_iinc (v := v17) (lv' := [(5, .int v17), (4, .int v16), (0, .ref (G.2.2 1042)), (2, .int xv2), (3, .int xv3)]) C.1.1 C.1.2.1 dX8_hasSought_120 hl (k := 4) rfl g17 (by decide) rfl (fun ls hl => ?_)
        refine lv_goto (tgt := 66) C.1.1 C.1.2.1 dX8_hasSought_123 (by decide) ?_
        exact hP66 t16 t17 hw hS (lv_sub hl [2, 3, 4, 1, 0] rfl) h
      · have h := h.2 c15
        exact uX8_hasSought_113 C hw hS xt2 xt3 xt5 (lv_sub hl [0, 1, 2, 4] rfl) hP66 h
set_option maxHeartbeats 4000000 in
set_option maxRecDepth 10000 in
theorem uX8_hasSought_66 {p : Program} {l : Launch} {e : Env} {s : State} {m : MethodId} {args : Array Value} {below : List Frame} {meth : Method} {c : Code} {G : GG} {SB : St} (C : Cx p s m args meth c G RX8 cX8_hasSought 6 (some .boolean)) {S : St} {H : Heap} {locs : List Loc} {ls : Array Slot}  {k : Int → Prop} (hw : Wd G ((injR SB) S) H) (hS : va_S (AG G) s.heap H locs) {xv2 : Int32} {x2 : Int} (xt2 : xv2.toInt = x2) {xv3 : Int32} {x3 : Int} (xt3 : xv3.toInt = x3) {xv4 : Int32} {x4 : Int} (xt4 : xv4.toInt = x4) {xv5 : Int32} {x5 : Int} (xt5 : xv5.toInt = x5) (hl : lv_has ls 6 [(0, .ref (G.2.2 1042)), (2, .int xv2), (3, .int xv3), (4, .int xv4), (5, .int xv5)])  (h : wX8_hasSought_66 S x2 x3 x4 x5 k) : W p l e (rmF 5 111) s m args below meth c H locs 0 0 (MQ below (QcI G (injR SB) (fun r u => k r ∧ u = S)) args s 0 0 (AG G)) (F0 m 66 ls []) := by
  have key : ∀ (n : Nat) {H : Heap} {locs : List Loc} {ls : Array Slot} {xv4 : Int32} {x4 : Int} {xv5 : Int32} {x5 : Int}, xv4.toInt = x4 → xv5.toInt = x5 → Wd G ((injR SB) S) H → va_S (AG G) s.heap H locs → lv_has ls 6 [(0, .ref (G.2.2 1042)), (2, .int xv2), (3, .int xv3), (4, .int xv4), (5, .int xv5)] → itP (fun (P : Int × Int → Prop) (a : Int × Int) => wX8_hasSought_66_b S x2 x3 a.1 a.2 (fun b0 b1 => P (b0, b1)) k) n (x4, x5) → W p l e (rmF 5 111) s m args below meth c H locs 0 0 (MQ below (QcI G (injR SB) (fun r u => k r ∧ u = S)) args s 0 0 (AG G)) (F0 m 66 ls []) := by
    intro n
    induction n with
    | zero => intro H locs ls xv4 x4 xv5 x5 xt4 xt5 hw hS hl h; exact h.elim
    | succ n ih =>
      intro H locs ls xv4 x4 xv5 x5 xt4 xt5 hw hS hl h
      exact uX8_hasSought_66_b C hw hS xt2 xt3 xt4 xt5 hl  (P66 := fun b0 b1 => itP _ n (b0, b1)) (fun q0 q1 hw hS hl h => ih q0 q1 hw hS hl h) h
  obtain ⟨n, hn⟩ := h
  exact key n xt4 xt5 hw hS hl hn
set_option maxHeartbeats 4000000 in
set_option maxRecDepth 10000 in
theorem uX8_hasSought_17_b {p : Program} {l : Launch} {e : Env} {s : State} {m : MethodId} {args : Array Value} {below : List Frame} {meth : Method} {c : Code} {G : GG} {SB : St} (C : Cx p s m args meth c G RX8 cX8_hasSought 6 (some .boolean)) {S : St} {H : Heap} {locs : List Loc} {ls : Array Slot}  {P17 : Int → Int → Prop} {k : Int → Prop} (hw : Wd G ((injR SB) S) H) (hS : va_S (AG G) s.heap H locs) {xv2 : Int32} {x2 : Int} (xt2 : xv2.toInt = x2) {xv3 : Int32} {x3 : Int} (xt3 : xv3.toInt = x3) {xv4 : Int32} {x4 : Int} (xt4 : xv4.toInt = x4) {xv5 : Int32} {x5 : Int} (xt5 : xv5.toInt = x5) (hl : lv_has ls 6 [(0, .ref (G.2.2 1042)), (2, .int xv2), (3, .int xv3), (4, .int xv4), (5, .int xv5)])  (hP17 : ∀ {H : Heap} {locs : List Loc} {ls : Array Slot} {yv4 : Int32} {y4 : Int} {yv5 : Int32} {y5 : Int}, yv4.toInt = y4 → yv5.toInt = y5 → Wd G ((injR SB) S) H → va_S (AG G) s.heap H locs → lv_has ls 6 [(0, .ref (G.2.2 1042)), (2, .int xv2), (3, .int xv3), (4, .int yv4), (5, .int yv5)] → P17 y4 y5 → W p l e (rmF 5 111) s m args below meth c H locs 0 0 (MQ below (QcI G (injR SB) (fun r u => k r ∧ u = S)) args s 0 0 (AG G)) (F0 m 17 ls [])) (h : wX8_hasSought_17_b S x2 x3 x4 x5 P17 k) : W p l e (rmF 5 111) s m args below meth c H locs 0 0 (MQ below (QcI G (injR SB) (fun r u => k r ∧ u = S)) args s 0 0 (AG G)) (F0 m 17 ls []) := by
  refine lv_iload C.1.1 C.1.2.1 dX8_hasSought_17 (lv_at hl 4 rfl) ?_
  refine lv_aload_n C.1.1 C.1.2.1 dX8_hasSought_19 rfl (lv_at hl 0 rfl) ?_
  refine y_getA C fl_X8_110 hw (ocr SB) rfl (o := 24) rfl dX8_hasSought_20 ?_
  refine lv_iload_n C.1.1 C.1.2.1 dX8_hasSought_23 rfl (lv_at hl 2 rfl) ?_
  obtain ⟨b2, h⟩ := h
  refine y_iald C hw (acr_33 SB) xt3 b2 dX8_hasSought_24 (fun v2 t2 => ?_)
  refine lv_aload_n C.1.1 C.1.2.1 dX8_hasSought_25 rfl (lv_at hl 0 rfl) ?_
  refine y_getA C fl_X8_113 hw (ocr SB) rfl (o := 25) rfl dX8_hasSought_26 ?_
  refine lv_iload_n C.1.1 C.1.2.1 dX8_hasSought_29 rfl (lv_at hl 2 rfl) ?_
  obtain ⟨b4, h⟩ := h
  refine y_iald C hw (acr_34 SB) xt3 b4 dX8_hasSought_30 (fun v4 t4 => ?_)
  refine y_iadd C t2 t4 dX8_hasSought_31 (fun v5 t5 => ?_)
  refine y_icmp_ge C xt5 t5 dX8_hasSought_32 (tgt := 63) (by decide) (fun c6 => ?_) (fun c6 => ?_)
  · have h := h.1 c6
    refine y_iconst C dX8_hasSought_63 ⟨by decide, by decide⟩ (fun v7 t7 => ?_)
    refine lv_istore (lv' := [(5, .int v7), (0, .ref (G.2.2 1042)), (2, .int xv2), (3, .int xv3), (4, .int xv4)]) C.1.1 C.1.2.1 dX8_hasSought_64 hl (by decide) rfl (fun ls hl => ?_)
    exact uX8_hasSought_66 C hw hS xt2 xt3 xt4 t7 (lv_sub hl [1, 2, 3, 4, 0] rfl)  h
  · have h := h.2 c6
    refine lv_iload C.1.1 C.1.2.1 dX8_hasSought_35 (lv_at hl 3 rfl) ?_
    refine y_if_ne C xt4 dX8_hasSought_37 (tgt := 50) (by decide) (fun c8 => ?_) (fun c8 => ?_)
    · have h := h.1 c8
      exact uX8_hasSought_50 C hw hS xt2 xt3 xt5 (lv_sub hl [0, 1, 2, 4] rfl) hP17 h
    · have h := h.2 c8
      refine lv_aload_n C.1.1 C.1.2.1 dX8_hasSought_40 rfl (lv_at hl 0 rfl) ?_
      refine lv_iload C.1.1 C.1.2.1 dX8_hasSought_41 (lv_at hl 4 rfl) ?_
      refine lv_iload_n C.1.1 C.1.2.1 dX8_hasSought_43 rfl (lv_at hl 1 rfl) ?_
      refine y_cVIp C (As := [.int xv5, .int xv2]) (rest := []) ml_X8_347 (kX8_isSought l G SB S xt5 xt2 h) (ocr SB) (T := TX8) (N := 60) rfl (by decide) ⟨(Nat.le_of_ble_eq_true rfl), (Nat.le_of_ble_eq_true rfl)⟩ hl.1 rfl rfl (Nat.le_of_ble_eq_true rfl) hw hS dX8_hasSought_44 (fun v9 x_9 H locs t9 h hw hS => ?_)
      refine y_if_eq C t9 dX8_hasSought_47 (tgt := 54) (by decide) (fun c10 => ?_) (fun c10 => ?_)
      · have h := h.1 c10
        refine y_iconst C dX8_hasSought_54 ⟨by decide, by decide⟩ (fun v11 t11 => ?_)
        refine lv_istore (lv' := [(4, .int v11), (0, .ref (G.2.2 1042)), (2, .int xv2), (3, .int xv3), (5, .int xv5)]) C.1.1 C.1.2.1 dX8_hasSought_55 hl (by decide) rfl (fun ls hl => ?_)
        obtain ⟨x_12, e12⟩ : ∃ z : Int, z = w32 (x5 + 1) := ⟨_, rfl⟩
        have h := h x_12 e12
        obtain ⟨v12, t12, g12⟩ : ∃ z : Int32, z.toInt = x_12 ∧ xv5 + Int32.ofInt 1 = z := ⟨_, (ti_inc xt5 ⟨by decide, by decide⟩).trans e12.symm, rfl⟩
        refine lv_iinc (v := v12) (lv' := [(5, .int v12), (4, .int v11), (0, .ref (G.2.2 1042)), (2, .int xv2), (3, .int xv3)]) C.1.1 C.1.2.1 dX8_hasSought_57 hl (k := 4) rfl g12 (by decide) rfl (fun ls hl => ?_)
        refine lv_goto (tgt := 17) C.1.1 C.1.2.1 dX8_hasSought_60 (by decide) ?_
        exact hP17 t11 t12 hw hS (lv_sub hl [2, 3, 4, 1, 0] rfl) h
      · have h := h.2 c10
        exact uX8_hasSought_50 C hw hS xt2 xt3 xt5 (lv_sub hl [0, 1, 2, 4] rfl) hP17 h
set_option maxHeartbeats 4000000 in
set_option maxRecDepth 10000 in
theorem uX8_hasSought_17 {p : Program} {l : Launch} {e : Env} {s : State} {m : MethodId} {args : Array Value} {below : List Frame} {meth : Method} {c : Code} {G : GG} {SB : St} (C : Cx p s m args meth c G RX8 cX8_hasSought 6 (some .boolean)) {S : St} {H : Heap} {locs : List Loc} {ls : Array Slot}  {k : Int → Prop} (hw : Wd G ((injR SB) S) H) (hS : va_S (AG G) s.heap H locs) {xv2 : Int32} {x2 : Int} (xt2 : xv2.toInt = x2) {xv3 : Int32} {x3 : Int} (xt3 : xv3.toInt = x3) {xv4 : Int32} {x4 : Int} (xt4 : xv4.toInt = x4) {xv5 : Int32} {x5 : Int} (xt5 : xv5.toInt = x5) (hl : lv_has ls 6 [(0, .ref (G.2.2 1042)), (2, .int xv2), (3, .int xv3), (4, .int xv4), (5, .int xv5)])  (h : wX8_hasSought_17 S x2 x3 x4 x5 k) : W p l e (rmF 5 111) s m args below meth c H locs 0 0 (MQ below (QcI G (injR SB) (fun r u => k r ∧ u = S)) args s 0 0 (AG G)) (F0 m 17 ls []) := by
  have key : ∀ (n : Nat) {H : Heap} {locs : List Loc} {ls : Array Slot} {xv4 : Int32} {x4 : Int} {xv5 : Int32} {x5 : Int}, xv4.toInt = x4 → xv5.toInt = x5 → Wd G ((injR SB) S) H → va_S (AG G) s.heap H locs → lv_has ls 6 [(0, .ref (G.2.2 1042)), (2, .int xv2), (3, .int xv3), (4, .int xv4), (5, .int xv5)] → itP (fun (P : Int × Int → Prop) (a : Int × Int) => wX8_hasSought_17_b S x2 x3 a.1 a.2 (fun b0 b1 => P (b0, b1)) k) n (x4, x5) → W p l e (rmF 5 111) s m args below meth c H locs 0 0 (MQ below (QcI G (injR SB) (fun r u => k r ∧ u = S)) args s 0 0 (AG G)) (F0 m 17 ls []) := by
    intro n
    induction n with
    | zero => intro H locs ls xv4 x4 xv5 x5 xt4 xt5 hw hS hl h; exact h.elim
    | succ n ih =>
      intro H locs ls xv4 x4 xv5 x5 xt4 xt5 hw hS hl h
      exact uX8_hasSought_17_b C hw hS xt2 xt3 xt4 xt5 hl  (P17 := fun b0 b1 => itP _ n (b0, b1)) (fun q0 q1 hw hS hl h => ih q0 q1 hw hS hl h) h
  obtain ⟨n, hn⟩ := h
  exact key n xt4 xt5 hw hS hl hn
set_option maxHeartbeats 4000000 in
set_option maxRecDepth 10000 in
theorem uX8_hasSought_0 {p : Program} {l : Launch} {e : Env} {s : State} {m : MethodId} {args : Array Value} {below : List Frame} {meth : Method} {c : Code} {G : GG} {SB : St} (C : Cx p s m args meth c G RX8 cX8_hasSought 6 (some .boolean)) {S : St} {H : Heap} {locs : List Loc} {ls : Array Slot}  {k : Int → Prop} (hw : Wd G ((injR SB) S) H) (hS : va_S (AG G) s.heap H locs) {xv1 : Int32} {x1 : Int} (xt1 : xv1.toInt = x1) {xv2 : Int32} {x2 : Int} (xt2 : xv2.toInt = x2) (hl : lv_has ls 6 [(0, .ref (G.2.2 1042)), (1, .int xv1), (2, .int xv2)])  (h : wX8_hasSought_0 S x1 x2 k) : W p l e (rmF 5 111) s m args below meth c H locs 0 0 (MQ below (QcI G (injR SB) (fun r u => k r ∧ u = S)) args s 0 0 (AG G)) (F0 m 0 ls []) := by
  refine lv_aload_n C.1.1 C.1.2.1 dX8_hasSought_0 rfl (lv_at hl 0 rfl) ?_
  refine lv_iload_n C.1.1 C.1.2.1 dX8_hasSought_1 rfl (lv_at hl 1 rfl) ?_
  refine y_cVIp C (As := [.int xv1]) (rest := []) ml_X8_214 (kX8_t l G SB S xt1 h) (ocr SB) (T := TX8) (N := 60) rfl (by decide) ⟨(Nat.le_of_ble_eq_true rfl), (Nat.le_of_ble_eq_true rfl)⟩ hl.1 rfl rfl (Nat.le_of_ble_eq_true rfl) hw hS dX8_hasSought_2 (fun v1 x_1 H locs t1 h hw hS => ?_)
  refine lv_istore_n (lv' := [(3, .int v1), (0, .ref (G.2.2 1042)), (1, .int xv1), (2, .int xv2)]) C.1.1 C.1.2.1 dX8_hasSought_5 rfl hl (by decide) rfl (fun ls hl => ?_)
  refine y_iconst C dX8_hasSought_6 ⟨by decide, by decide⟩ (fun v2 t2 => ?_)
  refine lv_istore (lv' := [(4, .int v2), (3, .int v1), (0, .ref (G.2.2 1042)), (1, .int xv1), (2, .int xv2)]) C.1.1 C.1.2.1 dX8_hasSought_7 hl (by decide) rfl (fun ls hl => ?_)
  refine lv_aload_n C.1.1 C.1.2.1 dX8_hasSought_9 rfl (lv_at hl 2 rfl) ?_
  refine y_getA C fl_X8_110 hw (ocr SB) rfl (o := 24) rfl dX8_hasSought_10 ?_
  refine lv_iload_n C.1.1 C.1.2.1 dX8_hasSought_13 rfl (lv_at hl 1 rfl) ?_
  obtain ⟨b4, h⟩ := h
  refine y_iald C hw (acr_33 SB) t1 b4 dX8_hasSought_14 (fun v4 t4 => ?_)
  obtain ⟨x_5, e5⟩ : ∃ z : Int, z = S 24 x_1 := ⟨_, rfl⟩
  have h := h x_5 e5
  have t5 := t4.trans e5.symm
  refine lv_istore (lv' := [(5, .int v4), (4, .int v2), (3, .int v1), (0, .ref (G.2.2 1042)), (1, .int xv1), (2, .int xv2)]) C.1.1 C.1.2.1 dX8_hasSought_15 hl (by decide) rfl (fun ls hl => ?_)
  exact uX8_hasSought_17 C hw hS xt2 t1 t2 t5 (lv_sub hl [3, 5, 2, 1, 0] rfl)  h
theorem kX8_hasSought (l : Launch) (G : GG) (SB S : St) {xv1 : Int32} {x1 : Int} (xt1 : xv1.toInt = x1) {xv2 : Int32} {x2 : Int} (xt2 : xv2.toInt = x2) {k : Int → Prop} (h : wX8_hasSought S x1 x2 k) : CnI l yX8_hasSought cX8_hasSought 6 (some .boolean) 5 111 G (injR SB) [.ref (G.2.2 1042), .int xv1, .int xv2] S (fun r u => k r ∧ u = S) :=
  cn_body (by decide +kernel) (Nat.le_of_ble_eq_true rfl) (fun p e s m args below meth c ls C hw hl => uX8_hasSought_0 C hw va_S.rf xt1 xt2 (lv_sub hl [0, 1, 2] rfl) h)
