/-! by program: the machine meets the models -/
set_option maxHeartbeats 4000000 in
set_option maxRecDepth 10000 in
theorem uX5_isLetter_12 {p : Program} {l : Launch} {e : Env} {s : State} {m : MethodId} {args : Array Value} {below : List Frame} {meth : Method} {c : Code} {G : GG} {SB : St} (C : Cx p s m args meth c G RX5 cX5_isLetter 1 (some .boolean)) {S : St} {H : Heap} {locs : List Loc} {ls : Array Slot}  {k : Int → Prop} (hw : Wd G ((injC SB) S) H) (hS : va_S (AG G) s.heap H locs) {xv0 : Int32} {x0 : Int} (xt0 : xv0.toInt = x0) (hl : lv_has ls 1 [(0, .int xv0)])  (h : wX5_isLetter_12 S x0 k) : W p l e (rmF 0 0) s m args below meth c H locs 0 0 (MQ below (QcI G (injC SB) (fun r u => k r ∧ u = S)) args s 0 0 (AG G)) (F0 m 12 ls []) := by
  refine lv_iload_n C.1.1 C.1.2.1 dX5_isLetter_12 rfl (lv_at hl 0 rfl) ?_
  refine y_bipush C dX5_isLetter_13 ⟨by decide, by decide⟩ (fun v1 t1 => ?_)
  refine y_icmp_lt C xt0 t1 dX5_isLetter_15 (tgt := 28) (by decide) (fun c2 => ?_) (fun c2 => ?_)
  · have h := h.1 c2
    refine y_iconst C dX5_isLetter_28 ⟨by decide, by decide⟩ (fun v3 t3 => ?_)
    exact y_zret C hw hS t3 (Or.inl rfl) ⟨h, rfl⟩ dX5_isLetter_29
  · have h := h.2 c2
    refine lv_iload_n C.1.1 C.1.2.1 dX5_isLetter_18 rfl (lv_at hl 0 rfl) ?_
    refine y_bipush C dX5_isLetter_19 ⟨by decide, by decide⟩ (fun v4 t4 => ?_)
    refine y_icmp_gt C xt0 t4 dX5_isLetter_21 (tgt := 28) (by decide) (fun c5 => ?_) (fun c5 => ?_)
    · have h := h.1 c5
      refine y_iconst C dX5_isLetter_28 ⟨by decide, by decide⟩ (fun v6 t6 => ?_)
      exact y_zret C hw hS t6 (Or.inl rfl) ⟨h, rfl⟩ dX5_isLetter_29
    · have h := h.2 c5
      refine y_iconst C dX5_isLetter_24 ⟨by decide, by decide⟩ (fun v7 t7 => ?_)
      refine lv_goto (tgt := 29) C.1.1 C.1.2.1 dX5_isLetter_25 (by decide) ?_
      exact y_zret C hw hS t7 (Or.inr rfl) ⟨h, rfl⟩ dX5_isLetter_29
set_option maxHeartbeats 4000000 in
set_option maxRecDepth 10000 in
theorem uX5_isLetter_0 {p : Program} {l : Launch} {e : Env} {s : State} {m : MethodId} {args : Array Value} {below : List Frame} {meth : Method} {c : Code} {G : GG} {SB : St} (C : Cx p s m args meth c G RX5 cX5_isLetter 1 (some .boolean)) {S : St} {H : Heap} {locs : List Loc} {ls : Array Slot}  {k : Int → Prop} (hw : Wd G ((injC SB) S) H) (hS : va_S (AG G) s.heap H locs) {xv0 : Int32} {x0 : Int} (xt0 : xv0.toInt = x0) (hl : lv_has ls 1 [(0, .int xv0)])  (h : wX5_isLetter_0 S x0 k) : W p l e (rmF 0 0) s m args below meth c H locs 0 0 (MQ below (QcI G (injC SB) (fun r u => k r ∧ u = S)) args s 0 0 (AG G)) (F0 m 0 ls []) := by
  refine lv_iload_n C.1.1 C.1.2.1 dX5_isLetter_0 rfl (lv_at hl 0 rfl) ?_
  refine y_bipush C dX5_isLetter_1 ⟨by decide, by decide⟩ (fun v1 t1 => ?_)
  refine y_icmp_lt C xt0 t1 dX5_isLetter_3 (tgt := 12) (by decide) (fun c2 => ?_) (fun c2 => ?_)
  · have h := h.1 c2
    exact uX5_isLetter_12 C hw hS xt0 (lv_sub hl [0] rfl)  h
  · have h := h.2 c2
    refine lv_iload_n C.1.1 C.1.2.1 dX5_isLetter_6 rfl (lv_at hl 0 rfl) ?_
    refine y_bipush C dX5_isLetter_7 ⟨by decide, by decide⟩ (fun v3 t3 => ?_)
    refine y_icmp_le C xt0 t3 dX5_isLetter_9 (tgt := 24) (by decide) (fun c4 => ?_) (fun c4 => ?_)
    · have h := h.1 c4
      refine y_iconst C dX5_isLetter_24 ⟨by decide, by decide⟩ (fun v5 t5 => ?_)
      refine lv_goto (tgt := 29) C.1.1 C.1.2.1 dX5_isLetter_25 (by decide) ?_
      exact y_zret C hw hS t5 (Or.inr rfl) ⟨h, rfl⟩ dX5_isLetter_29
    · have h := h.2 c4
      exact uX5_isLetter_12 C hw hS xt0 (lv_sub hl [0] rfl)  h
theorem kX5_isLetter (l : Launch) (G : GG) (SB S : St) {xv0 : Int32} {x0 : Int} (xt0 : xv0.toInt = x0) {k : Int → Prop} (h : wX5_isLetter S x0 k) : CnI l yX5_isLetter cX5_isLetter 1 (some .boolean) 0 0 G (injC SB) [.int xv0] S (fun r u => k r ∧ u = S) :=
  cn_body (by decide +kernel) (Nat.le_of_ble_eq_true rfl) (fun p e s m args below meth c ls C hw hl => uX5_isLetter_0 C hw va_S.rf xt0 (lv_sub hl [0] rfl) h)
set_option maxHeartbeats 4000000 in
set_option maxRecDepth 10000 in
theorem uX5_isDigit_0 {p : Program} {l : Launch} {e : Env} {s : State} {m : MethodId} {args : Array Value} {below : List Frame} {meth : Method} {c : Code} {G : GG} {SB : St} (C : Cx p s m args meth c G RX5 cX5_isDigit 1 (some .boolean)) {S : St} {H : Heap} {locs : List Loc} {ls : Array Slot}  {k : Int → Prop} (hw : Wd G ((injC SB) S) H) (hS : va_S (AG G) s.heap H locs) {xv0 : Int32} {x0 : Int} (xt0 : xv0.toInt = x0) (hl : lv_has ls 1 [(0, .int xv0)])  (h : wX5_isDigit_0 S x0 k) : W p l e (rmF 0 0) s m args below meth c H locs 0 0 (MQ below (QcI G (injC SB) (fun r u => k r ∧ u = S)) args s 0 0 (AG G)) (F0 m 0 ls []) := by
  refine lv_iload_n C.1.1 C.1.2.1 dX5_isDigit_0 rfl (lv_at hl 0 rfl) ?_
  refine y_bipush C dX5_isDigit_1 ⟨by decide, by decide⟩ (fun v1 t1 => ?_)
  refine y_icmp_lt C xt0 t1 dX5_isDigit_3 (tgt := 16) (by decide) (fun c2 => ?_) (fun c2 => ?_)
  · have h := h.1 c2
    refine y_iconst C dX5_isDigit_16 ⟨by decide, by decide⟩ (fun v3 t3 => ?_)
    exact y_zret C hw hS t3 (Or.inl rfl) ⟨h, rfl⟩ dX5_isDigit_17
  · have h := h.2 c2
    refine lv_iload_n C.1.1 C.1.2.1 dX5_isDigit_6 rfl (lv_at hl 0 rfl) ?_
    refine y_bipush C dX5_isDigit_7 ⟨by decide, by decide⟩ (fun v4 t4 => ?_)
    refine y_icmp_gt C xt0 t4 dX5_isDigit_9 (tgt := 16) (by decide) (fun c5 => ?_) (fun c5 => ?_)
    · have h := h.1 c5
      refine y_iconst C dX5_isDigit_16 ⟨by decide, by decide⟩ (fun v6 t6 => ?_)
      exact y_zret C hw hS t6 (Or.inl rfl) ⟨h, rfl⟩ dX5_isDigit_17
    · have h := h.2 c5
      refine y_iconst C dX5_isDigit_12 ⟨by decide, by decide⟩ (fun v7 t7 => ?_)
      refine lv_goto (tgt := 17) C.1.1 C.1.2.1 dX5_isDigit_13 (by decide) ?_
      exact y_zret C hw hS t7 (Or.inr rfl) ⟨h, rfl⟩ dX5_isDigit_17
theorem kX5_isDigit (l : Launch) (G : GG) (SB S : St) {xv0 : Int32} {x0 : Int} (xt0 : xv0.toInt = x0) {k : Int → Prop} (h : wX5_isDigit S x0 k) : CnI l yX5_isDigit cX5_isDigit 1 (some .boolean) 0 0 G (injC SB) [.int xv0] S (fun r u => k r ∧ u = S) :=
  cn_body (by decide +kernel) (Nat.le_of_ble_eq_true rfl) (fun p e s m args below meth c ls C hw hl => uX5_isDigit_0 C hw va_S.rf xt0 (lv_sub hl [0] rfl) h)
set_option maxHeartbeats 4000000 in
set_option maxRecDepth 10000 in
theorem uX5_lengthenWord_0 {p : Program} {l : Launch} {e : Env} {s : State} {m : MethodId} {args : Array Value} {below : List Frame} {meth : Method} {c : Code} {G : GG} {SB : St} (C : Cx p s m args meth c G RX5 cX5_lengthenWord 2 none) {S : St} {H : Heap} {locs : List Loc} {ls : Array Slot}  {k : St → Prop} (hw : Wd G ((injC SB) S) H) (hS : va_S (AG G) s.heap H locs) {xv1 : Int32} {x1 : Int} (xt1 : xv1.toInt = x1) (hl : lv_has ls 2 [(0, .ref (G.2.2 1028)), (1, .int xv1)])  (h : wX5_lengthenWord_0 S x1 k) : W p l e (rmF 0 0) s m args below meth c H locs 0 0 (MQ below (QcV G (injC SB) k) args s 0 0 (AG G)) (F0 m 0 ls []) := by
  refine lv_aload_n C.1.1 C.1.2.1 dX5_lengthenWord_0 rfl (lv_at hl 0 rfl) ?_
  refine lv_dup C.1.1 C.1.2.1 dX5_lengthenWord_1 rfl ?_
  refine y_getI C fl_X5_26 hw (ock_5 SB) rfl dX5_lengthenWord_2 (fun v1 t1 => ?_)
  refine y_iconst C dX5_lengthenWord_5 ⟨by decide, by decide⟩ (fun v2 t2 => ?_)
  refine y_iadd C t1 t2 dX5_lengthenWord_6 (fun v3 t3 => ?_)
  obtain ⟨S_4, e4⟩ : ∃ z : St, z = up S 1028 4 (w32 (S 1028 4 + 1)) := ⟨_, rfl⟩
  have h := h S_4 e4
  refine y_putI C fl_X5_26 fp_5_4 hw hS (ock_5 SB) rfl t3 dX5_lengthenWord_7 (fun H locs hw hS => ?_)
  have hw : Wd G ((injC SB) S_4) H := by rw [e4]; exact hw
  refine lv_aload_n C.1.1 C.1.2.1 dX5_lengthenWord_10 rfl (lv_at hl 0 rfl) ?_
  refine y_getA C fl_X5_15 hw (ock_5 SB) rfl (o := 2) rfl dX5_lengthenWord_11 ?_
  refine lv_aload_n C.1.1 C.1.2.1 dX5_lengthenWord_14 rfl (lv_at hl 0 rfl) ?_
  refine y_getI C fl_X5_22 hw (ock_5 SB) rfl dX5_lengthenWord_15 (fun v6 t6 => ?_)
  refine y_iconst C dX5_lengthenWord_18 ⟨by decide, by decide⟩ (fun v7 t7 => ?_)
  refine y_isub C t6 t7 dX5_lengthenWord_19 (fun v8 t8 => ?_)
  refine lv_aload_n C.1.1 C.1.2.1 dX5_lengthenWord_20 rfl (lv_at hl 0 rfl) ?_
  refine y_getA C fl_X5_15 hw (ock_5 SB) rfl (o := 2) rfl dX5_lengthenWord_21 ?_
  refine lv_aload_n C.1.1 C.1.2.1 dX5_lengthenWord_24 rfl (lv_at hl 0 rfl) ?_
  refine y_getI C fl_X5_22 hw (ock_5 SB) rfl dX5_lengthenWord_25 (fun v10 t10 => ?_)
  refine y_iconst C dX5_lengthenWord_28 ⟨by decide, by decide⟩ (fun v11 t11 => ?_)
  refine y_isub C t10 t11 dX5_lengthenWord_29 (fun v12 t12 => ?_)
  obtain ⟨b13, h⟩ := h
  refine y_lald C hw (ack_5_1 SB) t12 b13 dX5_lengthenWord_30 (fun v13 t13 => ?_)
  refine y_bipush C dX5_lengthenWord_31 ⟨by decide, by decide⟩ (fun v14 t14 => ?_)
  refine y_lshl C t13 t14 dX5_lengthenWord_33 (fun v15 t15 => ?_)
  refine lv_iload_n C.1.1 C.1.2.1 dX5_lengthenWord_34 rfl (lv_at hl 1 rfl) ?_
  refine y_i2l C xt1 dX5_lengthenWord_35 (fun v16 t16 => ?_)
  refine y_lor C t15 t16 dX5_lengthenWord_36 (fun v17 t17 => ?_)
  obtain ⟨b18, h⟩ := h
  obtain ⟨S_18, e18⟩ : ∃ z : St, z = up S_4 1030 (w32 ((S_4 1028 3) - 1)) (or64 (shl64 (S_4 1030 (w32 ((S_4 1028 3) - 1))) 8) x1) := ⟨_, rfl⟩
  have h := h S_18 e18
  refine y_last C hw hS (ack_5_1 SB) t8 t17 b18 dX5_lengthenWord_37 (fun H locs hw hS => ?_)
  have hw : Wd G ((injC SB) S_18) H := by rw [e18]; exact hw
  exact y_vret C hw hS h dX5_lengthenWord_38
theorem kX5_lengthenWord (l : Launch) (G : GG) (SB S : St) {xv1 : Int32} {x1 : Int} (xt1 : xv1.toInt = x1) {k : St → Prop} (h : wX5_lengthenWord S x1 k) : CnV l yX5_lengthenWord cX5_lengthenWord 2 none 0 0 G (injC SB) [.ref (G.2.2 1028), .int xv1] S k :=
  cn_body (by decide +kernel) (Nat.le_of_ble_eq_true rfl) (fun p e s m args below meth c ls C hw hl => uX5_lengthenWord_0 C hw va_S.rf xt1 (lv_sub hl [0, 1] rfl) h)
set_option maxHeartbeats 4000000 in
set_option maxRecDepth 10000 in
theorem uX5_endWord_56 {p : Program} {l : Launch} {e : Env} {s : State} {m : MethodId} {args : Array Value} {below : List Frame} {meth : Method} {c : Code} {G : GG} {SB : St} (C : Cx p s m args meth c G RX5 cX5_endWord 1 none) {S : St} {H : Heap} {locs : List Loc} {ls : Array Slot}  {k : St → Prop} (hw : Wd G ((injC SB) S) H) (hS : va_S (AG G) s.heap H locs)  (hl : lv_has ls 1 [(0, .ref (G.2.2 1028))])  (h : wX5_endWord_56 S k) : W p l e (rmF 1 22) s m args below meth c H locs 0 0 (MQ below (QcV G (injC SB) k) args s 0 0 (AG G)) (F0 m 56 ls []) := by
  refine lv_aload_n C.1.1 C.1.2.1 dX5_endWord_56 rfl (lv_at hl 0 rfl) ?_
  refine y_iconst C dX5_endWord_57 ⟨by decide, by decide⟩ (fun v1 t1 => ?_)
  obtain ⟨S_2, e2⟩ : ∃ z : St, z = up S 1028 4 0 := ⟨_, rfl⟩
  have h := h S_2 e2
  refine y_putI C fl_X5_26 fp_5_4 hw hS (ock_5 SB) rfl t1 dX5_endWord_58 (fun H locs hw hS => ?_)
  have hw : Wd G ((injC SB) S_2) H := by rw [e2]; exact hw
  exact y_vret C hw hS h dX5_endWord_61
set_option maxHeartbeats 4000000 in
set_option maxRecDepth 10000 in
theorem uX5_endWord_0 {p : Program} {l : Launch} {e : Env} {s : State} {m : MethodId} {args : Array Value} {below : List Frame} {meth : Method} {c : Code} {G : GG} {SB : St} (C : Cx p s m args meth c G RX5 cX5_endWord 1 none) {S : St} {H : Heap} {locs : List Loc} {ls : Array Slot}  {k : St → Prop} (hw : Wd G ((injC SB) S) H) (hS : va_S (AG G) s.heap H locs)  (hl : lv_has ls 1 [(0, .ref (G.2.2 1028))])  (h : wX5_endWord_0 S k) : W p l e (rmF 1 22) s m args below meth c H locs 0 0 (MQ below (QcV G (injC SB) k) args s 0 0 (AG G)) (F0 m 0 ls []) := by
  refine lv_aload_n C.1.1 C.1.2.1 dX5_endWord_0 rfl (lv_at hl 0 rfl) ?_
  refine y_getI C fl_X5_26 hw (ock_5 SB) rfl dX5_endWord_1 (fun v1 t1 => ?_)
  refine y_bipush C dX5_endWord_4 ⟨by decide, by decide⟩ (fun v2 t2 => ?_)
  refine y_icmp_le C t1 t2 dX5_endWord_6 (tgt := 24) (by decide) (fun c3 => ?_) (fun c3 => ?_)
  · have h := h.1 c3
    refine lv_aload_n C.1.1 C.1.2.1 dX5_endWord_24 rfl (lv_at hl 0 rfl) ?_
    refine y_getI C fl_X5_26 hw (ock_5 SB) rfl dX5_endWord_25 (fun v4 t4 => ?_)
    refine y_if_le C t4 dX5_endWord_28 (tgt := 56) (by decide) (fun c5 => ?_) (fun c5 => ?_)
    · have h := h.1 c5
      exact uX5_endWord_56 C hw hS  (lv_sub hl [0] rfl)  h
    · have h := h.2 c5
      refine lv_aload_n C.1.1 C.1.2.1 dX5_endWord_31 rfl (lv_at hl 0 rfl) ?_
      refine y_getA C fl_X5_9 hw (ock_5 SB) rfl (o := 1) rfl dX5_endWord_32 ?_
      refine lv_aload_n C.1.1 C.1.2.1 dX5_endWord_35 rfl (lv_at hl 0 rfl) ?_
      refine y_getI C fl_X5_22 hw (ock_5 SB) rfl dX5_endWord_36 (fun v7 t7 => ?_)
      refine y_iconst C dX5_endWord_39 ⟨by decide, by decide⟩ (fun v8 t8 => ?_)
      refine y_isub C t7 t8 dX5_endWord_40 (fun v9 t9 => ?_)
      refine lv_aload_n C.1.1 C.1.2.1 dX5_endWord_41 rfl (lv_at hl 0 rfl) ?_
      refine y_getA C fl_X5_15 hw (ock_5 SB) rfl (o := 2) rfl dX5_endWord_42 ?_
      refine lv_aload_n C.1.1 C.1.2.1 dX5_endWord_45 rfl (lv_at hl 0 rfl) ?_
      refine y_getI C fl_X5_22 hw (ock_5 SB) rfl dX5_endWord_46 (fun v11 t11 => ?_)
      refine y_iconst C dX5_endWord_49 ⟨by decide, by decide⟩ (fun v12 t12 => ?_)
      refine y_isub C t11 t12 dX5_endWord_50 (fun v13 t13 => ?_)
      obtain ⟨b14, h⟩ := h
      refine y_lald C hw (ack_5_1 SB) t13 b14 dX5_endWord_51 (fun v14 t14 => ?_)
      refine y_cSIp C (As := [.long v14]) (rest := [.int v9, .ref (G.2.2 (1029))]) ms_X5_54 (kX5_sortOfWord l G SB S t14 h) ⟨(Nat.le_of_ble_eq_true rfl), (Nat.le_of_ble_eq_true rfl)⟩ hl.1 rfl rfl (Nat.le_of_ble_eq_true rfl) hw hS dX5_endWord_52 (fun v15 x_15 H locs t15 h hw hS => ?_)
      obtain ⟨b16, h⟩ := h
      obtain ⟨S_16, e16⟩ : ∃ z : St, z = up S 1029 (w32 ((S 1028 3) - 1)) x_15 := ⟨_, rfl⟩
      have h := h S_16 e16
      refine y_iast C hw hS (ack_5_0 SB) t9 t15 b16 dX5_endWord_55 (fun H locs hw hS => ?_)
      have hw : Wd G ((injC SB) S_16) H := by rw [e16]; exact hw
      exact uX5_endWord_56 C hw hS  (lv_sub hl [0] rfl)  h
  · have h := h.2 c3
    refine lv_aload_n C.1.1 C.1.2.1 dX5_endWord_9 rfl (lv_at hl 0 rfl) ?_
    refine y_getA C fl_X5_9 hw (ock_5 SB) rfl (o := 1) rfl dX5_endWord_10 ?_
    refine lv_aload_n C.1.1 C.1.2.1 dX5_endWord_13 rfl (lv_at hl 0 rfl) ?_
    refine y_getI C fl_X5_22 hw (ock_5 SB) rfl dX5_endWord_14 (fun v18 t18 => ?_)
    refine y_iconst C dX5_endWord_17 ⟨by decide, by decide⟩ (fun v19 t19 => ?_)
    refine y_isub C t18 t19 dX5_endWord_18 (fun v20 t20 => ?_)
    refine y_iconst C dX5_endWord_19 ⟨by decide, by decide⟩ (fun v21 t21 => ?_)
    obtain ⟨b22, h⟩ := h
    obtain ⟨S_22, e22⟩ : ∃ z : St, z = up S 1029 (w32 ((S 1028 3) - 1)) 1 := ⟨_, rfl⟩
    have h := h S_22 e22
    refine y_iast C hw hS (ack_5_0 SB) t20 t21 b22 dX5_endWord_20 (fun H locs hw hS => ?_)
    have hw : Wd G ((injC SB) S_22) H := by rw [e22]; exact hw
    refine lv_goto (tgt := 56) C.1.1 C.1.2.1 dX5_endWord_21 (by decide) ?_
    exact uX5_endWord_56 C hw hS  (lv_sub hl [0] rfl)  h
theorem kX5_endWord (l : Launch) (G : GG) (SB S : St)  {k : St → Prop} (h : wX5_endWord S k) : CnV l yX5_endWord cX5_endWord 1 none 1 22 G (injC SB) [.ref (G.2.2 1028)] S k :=
  cn_body (by decide +kernel) (Nat.le_of_ble_eq_true rfl) (fun p e s m args below meth c ls C hw hl => uX5_endWord_0 C hw va_S.rf  (lv_sub hl [0] rfl) h)
set_option maxHeartbeats 4000000 in
set_option maxRecDepth 10000 in
theorem uX5_add_0 {p : Program} {l : Launch} {e : Env} {s : State} {m : MethodId} {args : Array Value} {below : List Frame} {meth : Method} {c : Code} {G : GG} {SB : St} (C : Cx p s m args meth c G RX5 cX5_add 5 none) {S : St} {H : Heap} {locs : List Loc} {ls : Array Slot}  {k : St → Prop} (hw : Wd G ((injC SB) S) H) (hS : va_S (AG G) s.heap H locs) {xv1 : Int32} {x1 : Int} (xt1 : xv1.toInt = x1) {xv2 : Int64} {x2 : Int} (xt2 : xv2.toInt = x2) {xv4 : Int32} {x4 : Int} (xt4 : xv4.toInt = x4) (hl : lv_has ls 5 [(0, .ref (G.2.2 1028)), (1, .int xv1), (2, .long xv2), (4, .int xv4)])  (h : wX5_add_0 S x1 x2 x4 k) : W p l e (rmF 0 0) s m args below meth c H locs 0 0 (MQ below (QcV G (injC SB) k) args s 0 0 (AG G)) (F0 m 0 ls []) := by
  refine lv_aload_n C.1.1 C.1.2.1 dX5_add_0 rfl (lv_at hl 0 rfl) ?_
  refine y_getI C fl_X5_22 hw (ock_5 SB) rfl dX5_add_1 (fun v1 t1 => ?_)
  refine lv_aload_n C.1.1 C.1.2.1 dX5_add_4 rfl (lv_at hl 0 rfl) ?_
  refine y_getA C fl_X5_9 hw (ock_5 SB) rfl (o := 1) rfl dX5_add_5 ?_
  refine y_alen C hw (ack_5_0 SB) ⟨by decide, by decide⟩ ⟨by decide, by decide⟩ dX5_add_8 (fun v3 t3 => ?_)
  refine y_icmp_ge C t1 t3 dX5_add_9 (tgt := 53) (by decide) (fun c4 => ?_) (fun c4 => ?_)
  · have h := h.1 c4
    exact y_vret C hw hS h dX5_add_53
  · have h := h.2 c4
    refine lv_aload_n C.1.1 C.1.2.1 dX5_add_12 rfl (lv_at hl 0 rfl) ?_
    refine y_getA C fl_X5_9 hw (ock_5 SB) rfl (o := 1) rfl dX5_add_13 ?_
    refine lv_aload_n C.1.1 C.1.2.1 dX5_add_16 rfl (lv_at hl 0 rfl) ?_
    refine y_getI C fl_X5_22 hw (ock_5 SB) rfl dX5_add_17 (fun v6 t6 => ?_)
    refine lv_iload_n C.1.1 C.1.2.1 dX5_add_20 rfl (lv_at hl 1 rfl) ?_
    obtain ⟨b7, h⟩ := h
    obtain ⟨S_7, e7⟩ : ∃ z : St, z = up S 1029 (S 1028 3) x1 := ⟨_, rfl⟩
    have h := h S_7 e7
    refine y_iast C hw hS (ack_5_0 SB) t6 xt1 b7 dX5_add_21 (fun H locs hw hS => ?_)
    have hw : Wd G ((injC SB) S_7) H := by rw [e7]; exact hw
    refine lv_aload_n C.1.1 C.1.2.1 dX5_add_22 rfl (lv_at hl 0 rfl) ?_
    refine y_getA C fl_X5_15 hw (ock_5 SB) rfl (o := 2) rfl dX5_add_23 ?_
    refine lv_aload_n C.1.1 C.1.2.1 dX5_add_26 rfl (lv_at hl 0 rfl) ?_
    refine y_getI C fl_X5_22 hw (ock_5 SB) rfl dX5_add_27 (fun v9 t9 => ?_)
    refine lv_lload_n C.1.1 C.1.2.1 dX5_add_30 rfl (lv_at hl 2 rfl) ?_
    obtain ⟨b10, h⟩ := h
    obtain ⟨S_10, e10⟩ : ∃ z : St, z = up S_7 1030 (S_7 1028 3) x2 := ⟨_, rfl⟩
    have h := h S_10 e10
    refine y_last C hw hS (ack_5_1 SB) t9 xt2 b10 dX5_add_31 (fun H locs hw hS => ?_)
    have hw : Wd G ((injC SB) S_10) H := by rw [e10]; exact hw
    refine lv_aload_n C.1.1 C.1.2.1 dX5_add_32 rfl (lv_at hl 0 rfl) ?_
    refine y_getA C fl_X5_19 hw (ock_5 SB) rfl (o := 3) rfl dX5_add_33 ?_
    refine lv_aload_n C.1.1 C.1.2.1 dX5_add_36 rfl (lv_at hl 0 rfl) ?_
    refine y_getI C fl_X5_22 hw (ock_5 SB) rfl dX5_add_37 (fun v12 t12 => ?_)
    refine lv_iload C.1.1 C.1.2.1 dX5_add_40 (lv_at hl 3 rfl) ?_
    obtain ⟨b13, h⟩ := h
    obtain ⟨S_13, e13⟩ : ∃ z : St, z = up S_10 1031 (S_10 1028 3) x4 := ⟨_, rfl⟩
    have h := h S_13 e13
    refine y_iast C hw hS (ack_5_2 SB) t12 xt4 b13 dX5_add_42 (fun H locs hw hS => ?_)
    have hw : Wd G ((injC SB) S_13) H := by rw [e13]; exact hw
    refine lv_aload_n C.1.1 C.1.2.1 dX5_add_43 rfl (lv_at hl 0 rfl) ?_
    refine lv_dup C.1.1 C.1.2.1 dX5_add_44 rfl ?_
    refine y_getI C fl_X5_22 hw (ock_5 SB) rfl dX5_add_45 (fun v14 t14 => ?_)
    refine y_iconst C dX5_add_48 ⟨by decide, by decide⟩ (fun v15 t15 => ?_)
    refine y_iadd C t14 t15 dX5_add_49 (fun v16 t16 => ?_)
    obtain ⟨S_17, e17⟩ : ∃ z : St, z = up S_13 1028 3 (w32 (S_13 1028 3 + 1)) := ⟨_, rfl⟩
    have h := h S_17 e17
    refine y_putI C fl_X5_22 fp_5_3 hw hS (ock_5 SB) rfl t16 dX5_add_50 (fun H locs hw hS => ?_)
    have hw : Wd G ((injC SB) S_17) H := by rw [e17]; exact hw
    exact y_vret C hw hS h dX5_add_53
theorem kX5_add (l : Launch) (G : GG) (SB S : St) {xv1 : Int32} {x1 : Int} (xt1 : xv1.toInt = x1) {xv2 : Int64} {x2 : Int} (xt2 : xv2.toInt = x2) {xv4 : Int32} {x4 : Int} (xt4 : xv4.toInt = x4) {k : St → Prop} (h : wX5_add S x1 x2 x4 k) : CnV l yX5_add cX5_add 5 none 0 0 G (injC SB) [.ref (G.2.2 1028), .int xv1, .long xv2, .int xv4] S k :=
  cn_body (by decide +kernel) (Nat.le_of_ble_eq_true rfl) (fun p e s m args below meth c ls C hw hl => uX5_add_0 C hw va_S.rf xt1 xt2 xt4 (lv_sub hl [0, 1, 2, 3] rfl) h)
set_option maxHeartbeats 4000000 in
set_option maxRecDepth 10000 in
theorem uX5_isSign_0 {p : Program} {l : Launch} {e : Env} {s : State} {m : MethodId} {args : Array Value} {below : List Frame} {meth : Method} {c : Code} {G : GG} {SB : St} (C : Cx p s m args meth c G RX5 cX5_isSign 1 (some .boolean)) {S : St} {H : Heap} {locs : List Loc} {ls : Array Slot}  {k : Int → Prop} (hw : Wd G ((injC SB) S) H) (hS : va_S (AG G) s.heap H locs) {xv0 : Int32} {x0 : Int} (xt0 : xv0.toInt = x0) (hl : lv_has ls 1 [(0, .int xv0)])  (h : wX5_isSign_0 S x0 k) : W p l e (rmF 0 0) s m args below meth c H locs 0 0 (MQ below (QcI G (injC SB) (fun r u => k r ∧ u = S)) args s 0 0 (AG G)) (F0 m 0 ls []) := by
  refine lv_iload_n C.1.1 C.1.2.1 dX5_isSign_0 rfl (lv_at hl 0 rfl) ?_
  refine y_bipush C dX5_isSign_1 ⟨by decide, by decide⟩ (fun v1 t1 => ?_)
  refine y_icmp_eq C xt0 t1 dX5_isSign_3 (tgt := 54) (by decide) (fun c2 => ?_) (fun c2 => ?_)
  · have h := h.1 c2
    refine y_iconst C dX5_isSign_54 ⟨by decide, by decide⟩ (fun v3 t3 => ?_)
    refine lv_goto (tgt := 59) C.1.1 C.1.2.1 dX5_isSign_55 (by decide) ?_
    exact y_zret C hw hS t3 (Or.inr rfl) ⟨h, rfl⟩ dX5_isSign_59
  · have h := h.2 c2
    refine lv_iload_n C.1.1 C.1.2.1 dX5_isSign_6 rfl (lv_at hl 0 rfl) ?_
    refine y_bipush C dX5_isSign_7 ⟨by decide, by decide⟩ (fun v4 t4 => ?_)
    refine y_icmp_eq C xt0 t4 dX5_isSign_9 (tgt := 54) (by decide) (fun c5 => ?_) (fun c5 => ?_)
    · have h := h.1 c5
      refine y_iconst C dX5_isSign_54 ⟨by decide, by decide⟩ (fun v6 t6 => ?_)
      refine lv_goto (tgt := 59) C.1.1 C.1.2.1 dX5_isSign_55 (by decide) ?_
      exact y_zret C hw hS t6 (Or.inr rfl) ⟨h, rfl⟩ dX5_isSign_59
    · have h := h.2 c5
      refine lv_iload_n C.1.1 C.1.2.1 dX5_isSign_12 rfl (lv_at hl 0 rfl) ?_
      refine y_bipush C dX5_isSign_13 ⟨by decide, by decide⟩ (fun v7 t7 => ?_)
      refine y_icmp_eq C xt0 t7 dX5_isSign_15 (tgt := 54) (by decide) (fun c8 => ?_) (fun c8 => ?_)
      · have h := h.1 c8
        refine y_iconst C dX5_isSign_54 ⟨by decide, by decide⟩ (fun v9 t9 => ?_)
        refine lv_goto (tgt := 59) C.1.1 C.1.2.1 dX5_isSign_55 (by decide) ?_
        exact y_zret C hw hS t9 (Or.inr rfl) ⟨h, rfl⟩ dX5_isSign_59
      · have h := h.2 c8
        refine lv_iload_n C.1.1 C.1.2.1 dX5_isSign_18 rfl (lv_at hl 0 rfl) ?_
        refine y_bipush C dX5_isSign_19 ⟨by decide, by decide⟩ (fun v10 t10 => ?_)
        refine y_icmp_eq C xt0 t10 dX5_isSign_21 (tgt := 54) (by decide) (fun c11 => ?_) (fun c11 => ?_)
        · have h := h.1 c11
          refine y_iconst C dX5_isSign_54 ⟨by decide, by decide⟩ (fun v12 t12 => ?_)
          refine lv_goto (tgt := 59) C.1.1 C.1.2.1 dX5_isSign_55 (by decide) ?_
          exact y_zret C hw hS t12 (Or.inr rfl) ⟨h, rfl⟩ dX5_isSign_59
        · have h := h.2 c11
          refine lv_iload_n C.1.1 C.1.2.1 dX5_isSign_24 rfl (lv_at hl 0 rfl) ?_
          refine y_bipush C dX5_isSign_25 ⟨by decide, by decide⟩ (fun v13 t13 => ?_)
          refine y_icmp_eq C xt0 t13 dX5_isSign_27 (tgt := 54) (by decide) (fun c14 => ?_) (fun c14 => ?_)
          · have h := h.1 c14
            refine y_iconst C dX5_isSign_54 ⟨by decide, by decide⟩ (fun v15 t15 => ?_)
            refine lv_goto (tgt := 59) C.1.1 C.1.2.1 dX5_isSign_55 (by decide) ?_
            exact y_zret C hw hS t15 (Or.inr rfl) ⟨h, rfl⟩ dX5_isSign_59
          · have h := h.2 c14
            refine lv_iload_n C.1.1 C.1.2.1 dX5_isSign_30 rfl (lv_at hl 0 rfl) ?_
            refine y_bipush C dX5_isSign_31 ⟨by decide, by decide⟩ (fun v16 t16 => ?_)
            refine y_icmp_eq C xt0 t16 dX5_isSign_33 (tgt := 54) (by decide) (fun c17 => ?_) (fun c17 => ?_)
            · have h := h.1 c17
              refine y_iconst C dX5_isSign_54 ⟨by decide, by decide⟩ (fun v18 t18 => ?_)
              refine lv_goto (tgt := 59) C.1.1 C.1.2.1 dX5_isSign_55 (by decide) ?_
              exact y_zret C hw hS t18 (Or.inr rfl) ⟨h, rfl⟩ dX5_isSign_59
            · have h := h.2 c17
              refine lv_iload_n C.1.1 C.1.2.1 dX5_isSign_36 rfl (lv_at hl 0 rfl) ?_
              refine y_bipush C dX5_isSign_37 ⟨by decide, by decide⟩ (fun v19 t19 => ?_)
              refine y_icmp_eq C xt0 t19 dX5_isSign_39 (tgt := 54) (by decide) (fun c20 => ?_) (fun c20 => ?_)
              · have h := h.1 c20
                refine y_iconst C dX5_isSign_54 ⟨by decide, by decide⟩ (fun v21 t21 => ?_)
                refine lv_goto (tgt := 59) C.1.1 C.1.2.1 dX5_isSign_55 (by decide) ?_
                exact y_zret C hw hS t21 (Or.inr rfl) ⟨h, rfl⟩ dX5_isSign_59
              · have h := h.2 c20
                refine lv_iload_n C.1.1 C.1.2.1 dX5_isSign_42 rfl (lv_at hl 0 rfl) ?_
                refine y_bipush C dX5_isSign_43 ⟨by decide, by decide⟩ (fun v22 t22 => ?_)
                refine y_icmp_eq C xt0 t22 dX5_isSign_45 (tgt := 54) (by decide) (fun c23 => ?_) (fun c23 => ?_)
                · have h := h.1 c23
                  refine y_iconst C dX5_isSign_54 ⟨by decide, by decide⟩ (fun v24 t24 => ?_)
                  refine lv_goto (tgt := 59) C.1.1 C.1.2.1 dX5_isSign_55 (by decide) ?_
                  exact y_zret C hw hS t24 (Or.inr rfl) ⟨h, rfl⟩ dX5_isSign_59
                · have h := h.2 c23
                  refine lv_iload_n C.1.1 C.1.2.1 dX5_isSign_48 rfl (lv_at hl 0 rfl) ?_
                  refine y_bipush C dX5_isSign_49 ⟨by decide, by decide⟩ (fun v25 t25 => ?_)
                  refine y_icmp_ne C xt0 t25 dX5_isSign_51 (tgt := 58) (by decide) (fun c26 => ?_) (fun c26 => ?_)
                  · have h := h.1 c26
                    refine y_iconst C dX5_isSign_58 ⟨by decide, by decide⟩ (fun v27 t27 => ?_)
                    exact y_zret C hw hS t27 (Or.inl rfl) ⟨h, rfl⟩ dX5_isSign_59
                  · have h := h.2 c26
                    refine y_iconst C dX5_isSign_54 ⟨by decide, by decide⟩ (fun v28 t28 => ?_)
                    refine lv_goto (tgt := 59) C.1.1 C.1.2.1 dX5_isSign_55 (by decide) ?_
                    exact y_zret C hw hS t28 (Or.inr rfl) ⟨h, rfl⟩ dX5_isSign_59
theorem kX5_isSign (l : Launch) (G : GG) (SB S : St) {xv0 : Int32} {x0 : Int} (xt0 : xv0.toInt = x0) {k : Int → Prop} (h : wX5_isSign S x0 k) : CnI l yX5_isSign cX5_isSign 1 (some .boolean) 0 0 G (injC SB) [.int xv0] S (fun r u => k r ∧ u = S) :=
  cn_body (by decide +kernel) (Nat.le_of_ble_eq_true rfl) (fun p e s m args below meth c ls C hw hl => uX5_isSign_0 C hw va_S.rf xt0 (lv_sub hl [0] rfl) h)
set_option maxHeartbeats 4000000 in
set_option maxRecDepth 10000 in
theorem uX5_begin_0 {p : Program} {l : Launch} {e : Env} {s : State} {m : MethodId} {args : Array Value} {below : List Frame} {meth : Method} {c : Code} {G : GG} {SB : St} (C : Cx p s m args meth c G RX5 cX5_begin 3 none) {S : St} {H : Heap} {locs : List Loc} {ls : Array Slot}  {k : St → Prop} (hw : Wd G ((injC SB) S) H) (hS : va_S (AG G) s.heap H locs) {xv1 : Int32} {x1 : Int} (xt1 : xv1.toInt = x1) {xv2 : Int32} {x2 : Int} (xt2 : xv2.toInt = x2) (hl : lv_has ls 3 [(0, .ref (G.2.2 1028)), (1, .int xv1), (2, .int xv2)])  (h : wX5_begin_0 S x1 x2 k) : W p l e (rmF 1 24) s m args below meth c H locs 0 0 (MQ below (QcV G (injC SB) k) args s 0 0 (AG G)) (F0 m 0 ls []) := by
  refine lv_iload_n C.1.1 C.1.2.1 dX5_begin_0 rfl (lv_at hl 1 rfl) ?_
  refine y_cSIp C (As := [.int xv1]) (rest := []) ms_X5_29 (kX5_isLetter l G SB S xt1 h) ⟨(Nat.le_of_ble_eq_true rfl), (Nat.le_of_ble_eq_true rfl)⟩ hl.1 rfl rfl (Nat.le_of_ble_eq_true rfl) hw hS dX5_begin_1 (fun v1 x_1 H locs t1 h hw hS => ?_)
  refine y_if_eq C t1 dX5_begin_4 (tgt := 23) (by decide) (fun c2 => ?_) (fun c2 => ?_)
  · have h := h.1 c2
    refine lv_iload_n C.1.1 C.1.2.1 dX5_begin_23 rfl (lv_at hl 1 rfl) ?_
    refine y_cSIp C (As := [.int xv1]) (rest := []) ms_X5_33 (kX5_isDigit l G SB S xt1 h) ⟨(Nat.le_of_ble_eq_true rfl), (Nat.le_of_ble_eq_true rfl)⟩ hl.1 rfl rfl (Nat.le_of_ble_eq_true rfl) hw hS dX5_begin_24 (fun v3 x_3 H locs t3 h hw hS => ?_)
    refine y_if_eq C t3 dX5_begin_27 (tgt := 44) (by decide) (fun c4 => ?_) (fun c4 => ?_)
    · have h := h.1 c4
      refine lv_iload_n C.1.1 C.1.2.1 dX5_begin_44 rfl (lv_at hl 1 rfl) ?_
      refine y_cSIp C (As := [.int xv1]) (rest := []) ms_X5_51 (kX5_isSign l G SB S xt1 h) ⟨(Nat.le_of_ble_eq_true rfl), (Nat.le_of_ble_eq_true rfl)⟩ hl.1 rfl rfl (Nat.le_of_ble_eq_true rfl) hw hS dX5_begin_45 (fun v5 x_5 H locs t5 h hw hS => ?_)
      refine y_if_eq C t5 dX5_begin_48 (tgt := 61) (by decide) (fun c6 => ?_) (fun c6 => ?_)
      · have h := h.1 c6
        refine lv_iload_n C.1.1 C.1.2.1 dX5_begin_61 rfl (lv_at hl 1 rfl) ?_
        refine y_bipush C dX5_begin_62 ⟨by decide, by decide⟩ (fun v7 t7 => ?_)
        refine y_icmp_eq C xt1 t7 dX5_begin_64 (tgt := 80) (by decide) (fun c8 => ?_) (fun c8 => ?_)
        · have h := h.1 c8
          exact y_vret C hw hS h dX5_begin_80
        · have h := h.2 c8
          refine lv_iload_n C.1.1 C.1.2.1 dX5_begin_67 rfl (lv_at hl 1 rfl) ?_
          refine y_bipush C dX5_begin_68 ⟨by decide, by decide⟩ (fun v9 t9 => ?_)
          refine y_icmp_eq C xt1 t9 dX5_begin_70 (tgt := 80) (by decide) (fun c10 => ?_) (fun c10 => ?_)
          · have h := h.1 c10
            exact y_vret C hw hS h dX5_begin_80
          · have h := h.2 c10
            refine lv_aload_n C.1.1 C.1.2.1 dX5_begin_73 rfl (lv_at hl 0 rfl) ?_
            refine y_iconst C dX5_begin_74 ⟨by decide, by decide⟩ (fun v11 t11 => ?_)
            refine y_lconst0 C dX5_begin_75 (fun v12 t12 => ?_)
            refine lv_iload_n C.1.1 C.1.2.1 dX5_begin_76 rfl (lv_at hl 2 rfl) ?_
            refine y_cVV C (As := [.int v11, .long v12, .int xv2]) (rest := []) ml_X5_47 (kX5_add l G SB S t11 t12 xt2 h) (ock_5 SB) (T := TX5) (N := 5) rfl (by decide) ⟨(Nat.le_of_ble_eq_true rfl), (Nat.le_of_ble_eq_true rfl)⟩ hl.1 rfl rfl (Nat.le_of_ble_eq_true rfl) hw hS dX5_begin_77 (fun S_13 H locs h hw hS => ?_)
            exact y_vret C hw hS h dX5_begin_80
      · have h := h.2 c6
        refine lv_aload_n C.1.1 C.1.2.1 dX5_begin_51 rfl (lv_at hl 0 rfl) ?_
        refine lv_iload_n C.1.1 C.1.2.1 dX5_begin_52 rfl (lv_at hl 1 rfl) ?_
        refine y_lconst0 C dX5_begin_53 (fun v14 t14 => ?_)
        refine lv_iload_n C.1.1 C.1.2.1 dX5_begin_54 rfl (lv_at hl 2 rfl) ?_
        refine y_cVV C (As := [.int xv1, .long v14, .int xv2]) (rest := []) ml_X5_47 (kX5_add l G SB S xt1 t14 xt2 h) (ock_5 SB) (T := TX5) (N := 5) rfl (by decide) ⟨(Nat.le_of_ble_eq_true rfl), (Nat.le_of_ble_eq_true rfl)⟩ hl.1 rfl rfl (Nat.le_of_ble_eq_true rfl) hw hS dX5_begin_55 (fun S_15 H locs h hw hS => ?_)
        refine lv_goto (tgt := 80) C.1.1 C.1.2.1 dX5_begin_58 (by decide) ?_
        exact y_vret C hw hS h dX5_begin_80
    · have h := h.2 c4
      refine lv_aload_n C.1.1 C.1.2.1 dX5_begin_30 rfl (lv_at hl 0 rfl) ?_
      refine y_iconst C dX5_begin_31 ⟨by decide, by decide⟩ (fun v16 t16 => ?_)
      refine lv_iload_n C.1.1 C.1.2.1 dX5_begin_32 rfl (lv_at hl 1 rfl) ?_
      refine y_bipush C dX5_begin_33 ⟨by decide, by decide⟩ (fun v17 t17 => ?_)
      refine y_isub C xt1 t17 dX5_begin_35 (fun v18 t18 => ?_)
      refine y_i2l C t18 dX5_begin_36 (fun v19 t19 => ?_)
      refine lv_iload_n C.1.1 C.1.2.1 dX5_begin_37 rfl (lv_at hl 2 rfl) ?_
      refine y_cVV C (As := [.int v16, .long v19, .int xv2]) (rest := []) ml_X5_47 (kX5_add l G SB S t16 t19 xt2 h) (ock_5 SB) (T := TX5) (N := 5) rfl (by decide) ⟨(Nat.le_of_ble_eq_true rfl), (Nat.le_of_ble_eq_true rfl)⟩ hl.1 rfl rfl (Nat.le_of_ble_eq_true rfl) hw hS dX5_begin_38 (fun S_20 H locs h hw hS => ?_)
      refine lv_goto (tgt := 80) C.1.1 C.1.2.1 dX5_begin_41 (by decide) ?_
      exact y_vret C hw hS h dX5_begin_80
  · have h := h.2 c2
    refine lv_aload_n C.1.1 C.1.2.1 dX5_begin_7 rfl (lv_at hl 0 rfl) ?_
    refine y_iconst C dX5_begin_8 ⟨by decide, by decide⟩ (fun v21 t21 => ?_)
    obtain ⟨S_22, e22⟩ : ∃ z : St, z = up S 1028 4 1 := ⟨_, rfl⟩
    have h := h S_22 e22
    refine y_putI C fl_X5_26 fp_5_4 hw hS (ock_5 SB) rfl t21 dX5_begin_9 (fun H locs hw hS => ?_)
    have hw : Wd G ((injC SB) S_22) H := by rw [e22]; exact hw
    refine lv_aload_n C.1.1 C.1.2.1 dX5_begin_12 rfl (lv_at hl 0 rfl) ?_
    refine y_iconst C dX5_begin_13 ⟨by decide, by decide⟩ (fun v23 t23 => ?_)
    refine lv_iload_n C.1.1 C.1.2.1 dX5_begin_14 rfl (lv_at hl 1 rfl) ?_
    refine y_i2l C xt1 dX5_begin_15 (fun v24 t24 => ?_)
    refine lv_iload_n C.1.1 C.1.2.1 dX5_begin_16 rfl (lv_at hl 2 rfl) ?_
    refine y_cVV C (As := [.int v23, .long v24, .int xv2]) (rest := []) ml_X5_47 (kX5_add l G SB S_22 t23 t24 xt2 h) (ock_5 SB) (T := TX5) (N := 5) rfl (by decide) ⟨(Nat.le_of_ble_eq_true rfl), (Nat.le_of_ble_eq_true rfl)⟩ hl.1 rfl rfl (Nat.le_of_ble_eq_true rfl) hw hS dX5_begin_17 (fun S_25 H locs h hw hS => ?_)
    refine lv_goto (tgt := 80) C.1.1 C.1.2.1 dX5_begin_20 (by decide) ?_
    exact y_vret C hw hS h dX5_begin_80
theorem kX5_begin (l : Launch) (G : GG) (SB S : St) {xv1 : Int32} {x1 : Int} (xt1 : xv1.toInt = x1) {xv2 : Int32} {x2 : Int} (xt2 : xv2.toInt = x2) {k : St → Prop} (h : wX5_begin S x1 x2 k) : CnV l yX5_begin cX5_begin 3 none 1 24 G (injC SB) [.ref (G.2.2 1028), .int xv1, .int xv2] S k :=
  cn_body (by decide +kernel) (Nat.le_of_ble_eq_true rfl) (fun p e s m args below meth c ls C hw hl => uX5_begin_0 C hw va_S.rf xt1 xt2 (lv_sub hl [0, 1, 2] rfl) h)
set_option maxHeartbeats 4000000 in
set_option maxRecDepth 10000 in
theorem uX5_scan_55 {p : Program} {l : Launch} {e : Env} {s : State} {m : MethodId} {args : Array Value} {below : List Frame} {meth : Method} {c : Code} {G : GG} {SB : St} (C : Cx p s m args meth c G RX5 cX5_scan 5 none) {S : St} {H : Heap} {locs : List Loc} {ls : Array Slot} {P12 : Int → St → Prop} {k : St → Prop} (hw : Wd G ((injC SB) S) H) (hS : va_S (AG G) s.heap H locs) {xv2 : Int32} {x2 : Int} (xt2 : xv2.toInt = x2) {xv3 : Int32} {x3 : Int} (xt3 : xv3.toInt = x3) {xv4 : Int32} {x4 : Int} (xt4 : xv4.toInt = x4) (hl : lv_has ls 5 [(0, .ref (G.2.2 1028)), (1, .ref (G.2.2 (1))), (2, .int xv2), (3, .int xv3), (4, .int xv4)]) (hP12 : ∀ {H : Heap} {locs : List Loc} {ls : Array Slot} {Sy : St} {yv3 : Int32} {y3 : Int}, yv3.toInt = y3 → Wd G ((injC SB) Sy) H → va_S (AG G) s.heap H locs → lv_has ls 5 [(0, .ref (G.2.2 1028)), (1, .ref (G.2.2 (1))), (2, .int xv2), (3, .int yv3)] → P12 y3 Sy → W p l e (rmF 2 46) s m args below meth c H locs 0 0 (MQ below (QcV G (injC SB) k) args s 0 0 (AG G)) (F0 m 12 ls [])) (h : wX5_scan_55 S x2 x3 x4 P12 k) : W p l e (rmF 2 46) s m args below meth c H locs 0 0 (MQ below (QcV G (injC SB) k) args s 0 0 (AG G)) (F0 m 55 ls []) := by
  refine lv_aload_n C.1.1 C.1.2.1 dX5_scan_55 rfl (lv_at hl 0 rfl) ?_
  refine lv_iload C.1.1 C.1.2.1 dX5_scan_56 (lv_at hl 4 rfl) ?_
  refine y_cVV C (As := [.int xv4]) (rest := []) ml_X5_36 (kX5_lengthenWord l G SB S xt4 h) (ock_5 SB) (T := TX5) (N := 5) rfl (by decide) ⟨(Nat.le_of_ble_eq_true rfl), (Nat.le_of_ble_eq_true rfl)⟩ hl.1 rfl rfl (Nat.le_of_ble_eq_true rfl) hw hS dX5_scan_58 (fun S_1 H locs h hw hS => ?_)
  refine lv_goto (tgt := 75) C.1.1 C.1.2.1 dX5_scan_61 (by decide) ?_
  obtain ⟨x_2, e2⟩ : ∃ z : Int, z = w32 (x3 + 1) := ⟨_, rfl⟩
  have h := h x_2 e2
  obtain ⟨v2, t2, g2⟩ : ∃ z : Int32, z.toInt = x_2 ∧ xv3 + Int32.ofInt 1 = z := ⟨_, (ti_inc xt3 ⟨by decide, by decide⟩).trans e2.symm, rfl⟩
  refine lv_iinc (v := v2) (lv' := [(3, .int v2), (0, .ref (G.2.2 1028)), (1, .ref (G.2.2 (1))), (2, .int xv2), (4, .int xv4)]) C.1.1 C.1.2.1 dX5_scan_75 hl (k := 3) rfl g2 (by decide) rfl (fun ls hl => ?_)
  refine lv_goto (tgt := 12) C.1.1 C.1.2.1 dX5_scan_78 (by decide) ?_
  exact hP12 t2 hw hS (lv_sub hl [1, 2, 3, 0] rfl) h
set_option maxHeartbeats 4000000 in
set_option maxRecDepth 10000 in
theorem uX5_scan_64 {p : Program} {l : Launch} {e : Env} {s : State} {m : MethodId} {args : Array Value} {below : List Frame} {meth : Method} {c : Code} {G : GG} {SB : St} (C : Cx p s m args meth c G RX5 cX5_scan 5 none) {S : St} {H : Heap} {locs : List Loc} {ls : Array Slot} {P12 : Int → St → Prop} {k : St → Prop} (hw : Wd G ((injC SB) S) H) (hS : va_S (AG G) s.heap H locs) {xv2 : Int32} {x2 : Int} (xt2 : xv2.toInt = x2) {xv3 : Int32} {x3 : Int} (xt3 : xv3.toInt = x3) {xv4 : Int32} {x4 : Int} (xt4 : xv4.toInt = x4) (hl : lv_has ls 5 [(0, .ref (G.2.2 1028)), (1, .ref (G.2.2 (1))), (2, .int xv2), (3, .int xv3), (4, .int xv4)]) (hP12 : ∀ {H : Heap} {locs : List Loc} {ls : Array Slot} {Sy : St} {yv3 : Int32} {y3 : Int}, yv3.toInt = y3 → Wd G ((injC SB) Sy) H → va_S (AG G) s.heap H locs → lv_has ls 5 [(0, .ref (G.2.2 1028)), (1, .ref (G.2.2 (1))), (2, .int xv2), (3, .int yv3)] → P12 y3 Sy → W p l e (rmF 2 46) s m args below meth c H locs 0 0 (MQ below (QcV G (injC SB) k) args s 0 0 (AG G)) (F0 m 12 ls [])) (h : wX5_scan_64 S x2 x3 x4 P12 k) : W p l e (rmF 2 46) s m args below meth c H locs 0 0 (MQ below (QcV G (injC SB) k) args s 0 0 (AG G)) (F0 m 64 ls []) := by
  refine lv_aload_n C.1.1 C.1.2.1 dX5_scan_64 rfl (lv_at hl 0 rfl) ?_
  refine y_cVV C (As := []) (rest := []) ml_X5_40 (kX5_endWord l G SB S  h) (ock_5 SB) (T := TX5) (N := 5) rfl (by decide) ⟨(Nat.le_of_ble_eq_true rfl), (Nat.le_of_ble_eq_true rfl)⟩ hl.1 rfl rfl (Nat.le_of_ble_eq_true rfl) hw hS dX5_scan_65 (fun S_1 H locs h hw hS => ?_)
  refine lv_aload_n C.1.1 C.1.2.1 dX5_scan_68 rfl (lv_at hl 0 rfl) ?_
  refine lv_iload C.1.1 C.1.2.1 dX5_scan_69 (lv_at hl 4 rfl) ?_
  refine lv_iload_n C.1.1 C.1.2.1 dX5_scan_71 rfl (lv_at hl 3 rfl) ?_
  refine y_cVV C (As := [.int xv4, .int xv3]) (rest := []) ml_X5_43 (kX5_begin l G SB S_1 xt4 xt3 h) (ock_5 SB) (T := TX5) (N := 5) rfl (by decide) ⟨(Nat.le_of_ble_eq_true rfl), (Nat.le_of_ble_eq_true rfl)⟩ hl.1 rfl rfl (Nat.le_of_ble_eq_true rfl) hw hS dX5_scan_72 (fun S_2 H locs h hw hS => ?_)
  obtain ⟨x_3, e3⟩ : ∃ z : Int, z = w32 (x3 + 1) := ⟨_, rfl⟩
  have h := h x_3 e3
  obtain ⟨v3, t3, g3⟩ : ∃ z : Int32, z.toInt = x_3 ∧ xv3 + Int32.ofInt 1 = z := ⟨_, (ti_inc xt3 ⟨by decide, by decide⟩).trans e3.symm, rfl⟩
  refine lv_iinc (v := v3) (lv' := [(3, .int v3), (0, .ref (G.2.2 1028)), (1, .ref (G.2.2 (1))), (2, .int xv2), (4, .int xv4)]) C.1.1 C.1.2.1 dX5_scan_75 hl (k := 3) rfl g3 (by decide) rfl (fun ls hl => ?_)
  refine lv_goto (tgt := 12) C.1.1 C.1.2.1 dX5_scan_78 (by decide) ?_
  exact hP12 t3 hw hS (lv_sub hl [1, 2, 3, 0] rfl) h
set_option maxHeartbeats 4000000 in
set_option maxRecDepth 10000 in
theorem uX5_scan_81 {p : Program} {l : Launch} {e : Env} {s : State} {m : MethodId} {args : Array Value} {below : List Frame} {meth : Method} {c : Code} {G : GG} {SB : St} (C : Cx p s m args meth c G RX5 cX5_scan 5 none) {S : St} {H : Heap} {locs : List Loc} {ls : Array Slot}  {k : St → Prop} (hw : Wd G ((injC SB) S) H) (hS : va_S (AG G) s.heap H locs) {xv2 : Int32} {x2 : Int} (xt2 : xv2.toInt = x2) (hl : lv_has ls 5 [(0, .ref (G.2.2 1028)), (2, .int xv2)])  (h : wX5_scan_81 S x2 k) : W p l e (rmF 2 46) s m args below meth c H locs 0 0 (MQ below (QcV G (injC SB) k) args s 0 0 (AG G)) (F0 m 81 ls []) := by
  refine lv_aload_n C.1.1 C.1.2.1 dX5_scan_81 rfl (lv_at hl 0 rfl) ?_
  refine y_cVV C (As := []) (rest := []) ml_X5_40 (kX5_endWord l G SB S  h) (ock_5 SB) (T := TX5) (N := 5) rfl (by decide) ⟨(Nat.le_of_ble_eq_true rfl), (Nat.le_of_ble_eq_true rfl)⟩ hl.1 rfl rfl (Nat.le_of_ble_eq_true rfl) hw hS dX5_scan_82 (fun S_1 H locs h hw hS => ?_)
  refine lv_aload_n C.1.1 C.1.2.1 dX5_scan_85 rfl (lv_at hl 0 rfl) ?_
  refine y_iconst C dX5_scan_86 ⟨by decide, by decide⟩ (fun v2 t2 => ?_)
  refine y_lconst0 C dX5_scan_87 (fun v3 t3 => ?_)
  refine lv_iload_n C.1.1 C.1.2.1 dX5_scan_88 rfl (lv_at hl 1 rfl) ?_
  refine y_cVV C (As := [.int v2, .long v3, .int xv2]) (rest := []) ml_X5_47 (kX5_add l G SB S_1 t2 t3 xt2 h) (ock_5 SB) (T := TX5) (N := 5) rfl (by decide) ⟨(Nat.le_of_ble_eq_true rfl), (Nat.le_of_ble_eq_true rfl)⟩ hl.1 rfl rfl (Nat.le_of_ble_eq_true rfl) hw hS dX5_scan_89 (fun S_4 H locs h hw hS => ?_)
  exact y_vret C hw hS h dX5_scan_92
set_option maxHeartbeats 4000000 in
set_option maxRecDepth 10000 in
theorem uX5_scan_12_b {p : Program} {l : Launch} {e : Env} {s : State} {m : MethodId} {args : Array Value} {below : List Frame} {meth : Method} {c : Code} {G : GG} {SB : St} (C : Cx p s m args meth c G RX5 cX5_scan 5 none) {S : St} {H : Heap} {locs : List Loc} {ls : Array Slot}  {P12 : Int → St → Prop} {k : St → Prop} (hw : Wd G ((injC SB) S) H) (hS : va_S (AG G) s.heap H locs) {xv2 : Int32} {x2 : Int} (xt2 : xv2.toInt = x2) {xv3 : Int32} {x3 : Int} (xt3 : xv3.toInt = x3) (hl : lv_has ls 5 [(0, .ref (G.2.2 1028)), (1, .ref (G.2.2 (1))), (2, .int xv2), (3, .int xv3)])  (hP12 : ∀ {H : Heap} {locs : List Loc} {ls : Array Slot} {Sy : St} {yv3 : Int32} {y3 : Int}, yv3.toInt = y3 → Wd G ((injC SB) Sy) H → va_S (AG G) s.heap H locs → lv_has ls 5 [(0, .ref (G.2.2 1028)), (1, .ref (G.2.2 (1))), (2, .int xv2), (3, .int yv3)] → P12 y3 Sy → W p l e (rmF 2 46) s m args below meth c H locs 0 0 (MQ below (QcV G (injC SB) k) args s 0 0 (AG G)) (F0 m 12 ls [])) (h : wX5_scan_12_b S x2 x3 P12 k) : W p l e (rmF 2 46) s m args below meth c H locs 0 0 (MQ below (QcV G (injC SB) k) args s 0 0 (AG G)) (F0 m 12 ls []) := by
  refine lv_iload_n C.1.1 C.1.2.1 dX5_scan_12 rfl (lv_at hl 3 rfl) ?_
  refine lv_iload_n C.1.1 C.1.2.1 dX5_scan_13 rfl (lv_at hl 2 rfl) ?_
  refine y_icmp_ge C xt3 xt2 dX5_scan_14 (tgt := 81) (by decide) (fun c1 => ?_) (fun c1 => ?_)
  · have h := h.1 c1
    exact uX5_scan_81 C hw hS xt2 (lv_sub hl [0, 2] rfl)  h
  · have h := h.2 c1
    refine lv_iload_n C.1.1 C.1.2.1 dX5_scan_17 rfl (lv_at hl 3 rfl) ?_
    refine lv_aload_n C.1.1 C.1.2.1 dX5_scan_18 rfl (lv_at hl 1 rfl) ?_
    refine y_alen C hw (ack_7_0 SB) ⟨by decide, by decide⟩ ⟨by decide, by decide⟩ dX5_scan_19 (fun v2 t2 => ?_)
    refine y_icmp_ge C xt3 t2 dX5_scan_20 (tgt := 81) (by decide) (fun c3 => ?_) (fun c3 => ?_)
    · have h := h.1 c3
      exact uX5_scan_81 C hw hS xt2 (lv_sub hl [0, 2] rfl)  h
    · have h := h.2 c3
      refine lv_aload_n C.1.1 C.1.2.1 dX5_scan_23 rfl (lv_at hl 1 rfl) ?_
      refine lv_iload_n C.1.1 C.1.2.1 dX5_scan_24 rfl (lv_at hl 3 rfl) ?_
      obtain ⟨b4, h⟩ := h
      refine y_bald C hw (ack_7_0 SB) xt3 b4 dX5_scan_25 (fun v4 t4 => ?_)
      refine y_sipush C dX5_scan_26 ⟨by decide, by decide⟩ (fun v5 t5 => ?_)
      refine y_iand C t4 t5 dX5_scan_29 (fun v6 t6 => ?_)
      obtain ⟨x_7, e7⟩ : ∃ z : Int, z = and32 (S 1 x3) 255 := ⟨_, rfl⟩
      have h := h x_7 e7
      have t7 := t6.trans e7.symm
      refine lv_istore (lv' := [(4, .int v6), (0, .ref (G.2.2 1028)), (1, .ref (G.2.2 (1))), (2, .int xv2), (3, .int xv3)]) C.1.1 C.1.2.1 dX5_scan_30 hl (by decide) rfl (fun ls hl => ?_)
      refine lv_aload_n C.1.1 C.1.2.1 dX5_scan_32 rfl (lv_at hl 1 rfl) ?_
      refine y_getI C fl_X5_26 hw (ock_5 SB) rfl dX5_scan_33 (fun v8 t8 => ?_)
      refine y_if_le C t8 dX5_scan_36 (tgt := 64) (by decide) (fun c9 => ?_) (fun c9 => ?_)
      · have h := h.1 c9
        exact uX5_scan_64 C hw hS xt2 xt3 t7 (lv_sub hl [1, 2, 3, 4, 0] rfl) hP12 h
      · have h := h.2 c9
        refine lv_iload C.1.1 C.1.2.1 dX5_scan_39 (lv_at hl 0 rfl) ?_
        refine y_cSIp C (As := [.int v6]) (rest := []) ms_X5_29 (kX5_isLetter l G SB S t7 h) ⟨(Nat.le_of_ble_eq_true rfl), (Nat.le_of_ble_eq_true rfl)⟩ hl.1 rfl rfl (Nat.le_of_ble_eq_true rfl) hw hS dX5_scan_41 (fun v10 x_10 H locs t10 h hw hS => ?_)
        refine y_if_ne C t10 dX5_scan_44 (tgt := 55) (by decide) (fun c11 => ?_) (fun c11 => ?_)
        · have h := h.1 c11
          exact uX5_scan_55 C hw hS xt2 xt3 t7 (lv_sub hl [1, 2, 3, 4, 0] rfl) hP12 h
        · have h := h.2 c11
          refine lv_iload C.1.1 C.1.2.1 dX5_scan_47 (lv_at hl 0 rfl) ?_
          refine y_cSIp C (As := [.int v6]) (rest := []) ms_X5_33 (kX5_isDigit l G SB S t7 h) ⟨(Nat.le_of_ble_eq_true rfl), (Nat.le_of_ble_eq_true rfl)⟩ hl.1 rfl rfl (Nat.le_of_ble_eq_true rfl) hw hS dX5_scan_49 (fun v12 x_12 H locs t12 h hw hS => ?_)
          refine y_if_eq C t12 dX5_scan_52 (tgt := 64) (by decide) (fun c13 => ?_) (fun c13 => ?_)
          · have h := h.1 c13
            exact uX5_scan_64 C hw hS xt2 xt3 t7 (lv_sub hl [1, 2, 3, 4, 0] rfl) hP12 h
          · have h := h.2 c13
            exact uX5_scan_55 C hw hS xt2 xt3 t7 (lv_sub hl [1, 2, 3, 4, 0] rfl) hP12 h
set_option maxHeartbeats 4000000 in
set_option maxRecDepth 10000 in
theorem uX5_scan_12 {p : Program} {l : Launch} {e : Env} {s : State} {m : MethodId} {args : Array Value} {below : List Frame} {meth : Method} {c : Code} {G : GG} {SB : St} (C : Cx p s m args meth c G RX5 cX5_scan 5 none) {S : St} {H : Heap} {locs : List Loc} {ls : Array Slot}  {k : St → Prop} (hw : Wd G ((injC SB) S) H) (hS : va_S (AG G) s.heap H locs) {xv2 : Int32} {x2 : Int} (xt2 : xv2.toInt = x2) {xv3 : Int32} {x3 : Int} (xt3 : xv3.toInt = x3) (hl : lv_has ls 5 [(0, .ref (G.2.2 1028)), (1, .ref (G.2.2 (1))), (2, .int xv2), (3, .int xv3)])  (h : wX5_scan_12 S x2 x3 k) : W p l e (rmF 2 46) s m args below meth c H locs 0 0 (MQ below (QcV G (injC SB) k) args s 0 0 (AG G)) (F0 m 12 ls []) := by
  have key : ∀ (n : Nat) {H : Heap} {locs : List Loc} {ls : Array Slot} {S : St} {xv3 : Int32} {x3 : Int}, xv3.toInt = x3 → Wd G ((injC SB) S) H → va_S (AG G) s.heap H locs → lv_has ls 5 [(0, .ref (G.2.2 1028)), (1, .ref (G.2.2 (1))), (2, .int xv2), (3, .int xv3)] → itP (fun (P : Int × St → Prop) (a : Int × St) => wX5_scan_12_b a.2 x2 a.1 (fun b0 b1 => P (b0, b1)) k) n (x3, S) → W p l e (rmF 2 46) s m args below meth c H locs 0 0 (MQ below (QcV G (injC SB) k) args s 0 0 (AG G)) (F0 m 12 ls []) := by
    intro n
    induction n with
    | zero => intro H locs ls S xv3 x3 xt3 hw hS hl h; exact h.elim
    | succ n ih =>
      intro H locs ls S xv3 x3 xt3 hw hS hl h
      exact uX5_scan_12_b C hw hS xt2 xt3 hl  (P12 := fun b0 b1 => itP _ n (b0, b1)) (fun q0 hw hS hl h => ih q0 hw hS hl h) h
  obtain ⟨n, hn⟩ := h
  exact key n xt3 hw hS hl hn
set_option maxHeartbeats 4000000 in
set_option maxRecDepth 10000 in
theorem uX5_scan_0 {p : Program} {l : Launch} {e : Env} {s : State} {m : MethodId} {args : Array Value} {below : List Frame} {meth : Method} {c : Code} {G : GG} {SB : St} (C : Cx p s m args meth c G RX5 cX5_scan 5 none) {S : St} {H : Heap} {locs : List Loc} {ls : Array Slot}  {k : St → Prop} (hw : Wd G ((injC SB) S) H) (hS : va_S (AG G) s.heap H locs) {xv2 : Int32} {x2 : Int} (xt2 : xv2.toInt = x2) (hl : lv_has ls 5 [(0, .ref (G.2.2 1028)), (1, .ref (G.2.2 (1))), (2, .int xv2)])  (h : wX5_scan_0 S x2 k) : W p l e (rmF 2 46) s m args below meth c H locs 0 0 (MQ below (QcV G (injC SB) k) args s 0 0 (AG G)) (F0 m 0 ls []) := by
  refine lv_aload_n C.1.1 C.1.2.1 dX5_scan_0 rfl (lv_at hl 0 rfl) ?_
  refine y_iconst C dX5_scan_1 ⟨by decide, by decide⟩ (fun v1 t1 => ?_)
  obtain ⟨S_2, e2⟩ : ∃ z : St, z = up S 1028 3 0 := ⟨_, rfl⟩
  have h := h S_2 e2
  refine y_putI C fl_X5_22 fp_5_3 hw hS (ock_5 SB) rfl t1 dX5_scan_2 (fun H locs hw hS => ?_)
  have hw : Wd G ((injC SB) S_2) H := by rw [e2]; exact hw
  refine lv_aload_n C.1.1 C.1.2.1 dX5_scan_5 rfl (lv_at hl 0 rfl) ?_
  refine y_iconst C dX5_scan_6 ⟨by decide, by decide⟩ (fun v3 t3 => ?_)
  obtain ⟨S_4, e4⟩ : ∃ z : St, z = up S_2 1028 4 0 := ⟨_, rfl⟩
  have h := h S_4 e4
  refine y_putI C fl_X5_26 fp_5_4 hw hS (ock_5 SB) rfl t3 dX5_scan_7 (fun H locs hw hS => ?_)
  have hw : Wd G ((injC SB) S_4) H := by rw [e4]; exact hw
  refine y_iconst C dX5_scan_10 ⟨by decide, by decide⟩ (fun v5 t5 => ?_)
  refine lv_istore_n (lv' := [(3, .int v5), (0, .ref (G.2.2 1028)), (1, .ref (G.2.2 (1))), (2, .int xv2)]) C.1.1 C.1.2.1 dX5_scan_11 rfl hl (by decide) rfl (fun ls hl => ?_)
  exact uX5_scan_12 C hw hS xt2 t5 (lv_sub hl [1, 2, 3, 0] rfl)  h
theorem kX5_scan (l : Launch) (G : GG) (SB S : St) {xv2 : Int32} {x2 : Int} (xt2 : xv2.toInt = x2) {k : St → Prop} (h : wX5_scan S x2 k) : CnV l yX5_scan cX5_scan 5 none 2 46 G (injC SB) [.ref (G.2.2 1028), .ref (G.2.2 (1)), .int xv2] S k :=
  cn_body (by decide +kernel) (Nat.le_of_ble_eq_true rfl) (fun p e s m args below meth c ls C hw hl => uX5_scan_0 C hw va_S.rf xt2 (lv_sub hl [0, 1, 2] rfl) h)
