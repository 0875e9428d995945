/-! by program: the machine meets the models -/
set_option maxHeartbeats 4000000 in
set_option maxRecDepth 10000 in
theorem uX0_hasTwins_27_b {p : Program} {l : Launch} {e : Env} {s : State} {m : MethodId} {args : Array Value} {below : List Frame} {meth : Method} {c : Code} {G : GG} {SB : St} (C : Cx p s m args meth c G RX0 cX0_hasTwins 3 (some .boolean)) {S : St} {H : Heap} {locs : List Loc} {ls : Array Slot} {P8 : Int → Prop} {P27 : Int → Prop} {k : Int → Prop} (hw : Wd G ((injC SB) S) H) (hS : va_S (AG G) s.heap H locs) {xv1 : Int32} {x1 : Int} (xt1 : xv1.toInt = x1) {xv2 : Int32} {x2 : Int} (xt2 : xv2.toInt = x2) (hl : lv_has ls 3 [(0, .ref (G.2.2 1034)), (1, .int xv1), (2, .int xv2)]) (hP8 : ∀ {H : Heap} {locs : List Loc} {ls : Array Slot} {yv1 : Int32} {y1 : Int}, yv1.toInt = y1 → Wd G ((injC SB) S) H → va_S (AG G) s.heap H locs → lv_has ls 3 [(0, .ref (G.2.2 1034)), (1, .int yv1)] → P8 y1 → W p l e (rmF 1 21) s m args below meth c H locs 0 0 (MQ below (QcI G (injC SB) (fun r u => k r ∧ u = S)) args s 0 0 (AG G)) (F0 m 8 ls [])) (hP27 : ∀ {H : Heap} {locs : List Loc} {ls : Array Slot} {yv2 : Int32} {y2 : Int}, yv2.toInt = y2 → Wd G ((injC SB) S) H → va_S (AG G) s.heap H locs → lv_has ls 3 [(0, .ref (G.2.2 1034)), (1, .int xv1), (2, .int yv2)] → P27 y2 → W p l e (rmF 1 21) s m args below meth c H locs 0 0 (MQ below (QcI G (injC SB) (fun r u => k r ∧ u = S)) args s 0 0 (AG G)) (F0 m 27 ls [])) (h : wX0_hasTwins_27_b S x1 x2 P8 P27 k) : W p l e (rmF 1 21) s m args below meth c H locs 0 0 (MQ below (QcI G (injC SB) (fun r u => k r ∧ u = S)) args s 0 0 (AG G)) (F0 m 27 ls []) := by
  refine lv_iload_n C.1.1 C.1.2.1 dX0_hasTwins_27 rfl (lv_at hl 2 rfl) ?_
  refine lv_iload_n C.1.1 C.1.2.1 dX0_hasTwins_28 rfl (lv_at hl 1 rfl) ?_
  refine y_icmp_ge C xt2 xt1 dX0_hasTwins_29 (tgt := 64) (by decide) (fun c1 => ?_) (fun c1 => ?_)
  · have h := h.1 c1
    obtain ⟨x_2, e2⟩ : ∃ z : Int, z = w32 (x1 + 1) := ⟨_, rfl⟩
    have h := h x_2 e2
    obtain ⟨v2, t2, g2⟩ : ∃ z : Int32, z.toInt = x_2 ∧ xv1 + Int32.ofInt 1 = z := ⟨_, (ti_inc xt1 ⟨by decide, by decide⟩).trans e2.symm, rfl⟩
    refine lv_iinc (v := v2) (lv' := [(1, .int v2), (0, .ref (G.2.2 1034)), (2, .int xv2)]) C.1.1 C.1.2.1 dX0_hasTwins_64 hl (k := 1) rfl g2 (by decide) rfl (fun ls hl => ?_)
    refine lv_goto (tgt := 8) C.1.1 C.1.2.1 dX0_hasTwins_67 (by decide) ?_
    exact hP8 t2 hw hS (lv_sub hl [1, 0] rfl) h
  · have h := h.2 c1
    refine lv_aload_n C.1.1 C.1.2.1 dX0_hasTwins_32 rfl (lv_at hl 0 rfl) ?_
    obtain ⟨x_3, e3⟩ : ∃ z : Int, z = S 1034 0 := ⟨_, rfl⟩
    obtain ⟨o3, h⟩ := h x_3 e3
    refine y_getO C fl_X0_18 hw (ock_0 SB) rfl e3 o3 dX0_hasTwins_33 ?_
    refine y_getA C fl_X0_66 hw (oc_of SB o3) rfl (o := 2) rfl dX0_hasTwins_36 ?_
    refine lv_iload_n C.1.1 C.1.2.1 dX0_hasTwins_39 rfl (lv_at hl 1 rfl) ?_
    obtain ⟨b5, h⟩ := h
    obtain ⟨x_5, e5⟩ : ∃ z : Int, z = x_3 + 150 + 3 * x1 := ⟨_, rfl⟩
    have h := h x_5 e5
    have o5 : isO 3 x_5 := isO_mb o3 b5 e5
    refine y_mbO C hw o3 xt1 b5 e5 dX0_hasTwins_40 ?_
    refine lv_aload_n C.1.1 C.1.2.1 dX0_hasTwins_41 rfl (lv_at hl 0 rfl) ?_
    obtain ⟨x_6, e6⟩ : ∃ z : Int, z = S 1034 0 := ⟨_, rfl⟩
    obtain ⟨o6, h⟩ := h x_6 e6
    refine y_getO C fl_X0_18 hw (ock_0 SB) rfl e6 o6 dX0_hasTwins_42 ?_
    refine y_getA C fl_X0_66 hw (oc_of SB o6) rfl (o := 2) rfl dX0_hasTwins_45 ?_
    refine lv_iload_n C.1.1 C.1.2.1 dX0_hasTwins_48 rfl (lv_at hl 2 rfl) ?_
    obtain ⟨b8, h⟩ := h
    obtain ⟨x_8, e8⟩ : ∃ z : Int, z = x_6 + 150 + 3 * x2 := ⟨_, rfl⟩
    have h := h x_8 e8
    have o8 : isO 3 x_8 := isO_mb o6 b8 e8
    refine y_mbO C hw o6 xt2 b8 e8 dX0_hasTwins_49 ?_
    refine y_cVIp C (As := [.ref (G.2.2 (x_8).toNat)]) (rest := []) ml_X0_70 (kX3_hasErasedKindsOf l G SB S o5 o8 h) (oc_of SB o5) (T := TX3) (N := 8) rfl (by decide) ⟨(Nat.le_of_ble_eq_true rfl), (Nat.le_of_ble_eq_true rfl)⟩ hl.1 rfl rfl (Nat.le_of_ble_eq_true rfl) hw hS dX0_hasTwins_50 (fun v9 x_9 H locs t9 h hw hS => ?_)
    refine y_if_eq C t9 dX0_hasTwins_53 (tgt := 58) (by decide) (fun c10 => ?_) (fun c10 => ?_)
    · have h := h.1 c10
      obtain ⟨x_11, e11⟩ : ∃ z : Int, z = w32 (x2 + 1) := ⟨_, rfl⟩
      have h := h x_11 e11
      obtain ⟨v11, t11, g11⟩ : ∃ z : Int32, z.toInt = x_11 ∧ xv2 + Int32.ofInt 1 = z := ⟨_, (ti_inc xt2 ⟨by decide, by decide⟩).trans e11.symm, rfl⟩
      refine lv_iinc (v := v11) (lv' := [(2, .int v11), (0, .ref (G.2.2 1034)), (1, .int xv1)]) C.1.1 C.1.2.1 dX0_hasTwins_58 hl (k := 2) rfl g11 (by decide) rfl (fun ls hl => ?_)
      refine lv_goto (tgt := 27) C.1.1 C.1.2.1 dX0_hasTwins_61 (by decide) ?_
      exact hP27 t11 hw hS (lv_sub hl [1, 2, 0] rfl) h
    · have h := h.2 c10
      refine y_iconst C dX0_hasTwins_56 ⟨by decide, by decide⟩ (fun v12 t12 => ?_)
      exact y_zret C hw hS t12 (Or.inr rfl) ⟨h, rfl⟩ dX0_hasTwins_57
set_option maxHeartbeats 4000000 in
set_option maxRecDepth 10000 in
theorem uX0_hasTwins_27 {p : Program} {l : Launch} {e : Env} {s : State} {m : MethodId} {args : Array Value} {below : List Frame} {meth : Method} {c : Code} {G : GG} {SB : St} (C : Cx p s m args meth c G RX0 cX0_hasTwins 3 (some .boolean)) {S : St} {H : Heap} {locs : List Loc} {ls : Array Slot} {P8 : Int → Prop} {k : Int → Prop} (hw : Wd G ((injC SB) S) H) (hS : va_S (AG G) s.heap H locs) {xv1 : Int32} {x1 : Int} (xt1 : xv1.toInt = x1) {xv2 : Int32} {x2 : Int} (xt2 : xv2.toInt = x2) (hl : lv_has ls 3 [(0, .ref (G.2.2 1034)), (1, .int xv1), (2, .int xv2)]) (hP8 : ∀ {H : Heap} {locs : List Loc} {ls : Array Slot} {yv1 : Int32} {y1 : Int}, yv1.toInt = y1 → Wd G ((injC SB) S) H → va_S (AG G) s.heap H locs → lv_has ls 3 [(0, .ref (G.2.2 1034)), (1, .int yv1)] → P8 y1 → W p l e (rmF 1 21) s m args below meth c H locs 0 0 (MQ below (QcI G (injC SB) (fun r u => k r ∧ u = S)) args s 0 0 (AG G)) (F0 m 8 ls [])) (h : wX0_hasTwins_27 S x1 x2 P8 k) : W p l e (rmF 1 21) s m args below meth c H locs 0 0 (MQ below (QcI G (injC SB) (fun r u => k r ∧ u = S)) args s 0 0 (AG G)) (F0 m 27 ls []) := by
  have key : ∀ (n : Nat) {H : Heap} {locs : List Loc} {ls : Array Slot} {xv2 : Int32} {x2 : Int}, xv2.toInt = x2 → Wd G ((injC SB) S) H → va_S (AG G) s.heap H locs → lv_has ls 3 [(0, .ref (G.2.2 1034)), (1, .int xv1), (2, .int xv2)] → itP (fun (P : Int → Prop) (a : Int) => wX0_hasTwins_27_b S x1 a P8 (fun b0 => P (b0)) k) n (x2) → W p l e (rmF 1 21) s m args below meth c H locs 0 0 (MQ below (QcI G (injC SB) (fun r u => k r ∧ u = S)) args s 0 0 (AG G)) (F0 m 27 ls []) := by
    intro n
    induction n with
    | zero => intro H locs ls xv2 x2 xt2 hw hS hl h; exact h.elim
    | succ n ih =>
      intro H locs ls xv2 x2 xt2 hw hS hl h
      exact uX0_hasTwins_27_b C hw hS xt1 xt2 hl hP8 (P27 := fun b0 => itP _ n (b0)) (fun q0 hw hS hl h => ih q0 hw hS hl h) h
  obtain ⟨n, hn⟩ := h
  exact key n xt2 hw hS hl hn
set_option maxHeartbeats 4000000 in
set_option maxRecDepth 10000 in
theorem uX0_hasTwins_8_b {p : Program} {l : Launch} {e : Env} {s : State} {m : MethodId} {args : Array Value} {below : List Frame} {meth : Method} {c : Code} {G : GG} {SB : St} (C : Cx p s m args meth c G RX0 cX0_hasTwins 3 (some .boolean)) {S : St} {H : Heap} {locs : List Loc} {ls : Array Slot}  {P8 : Int → Prop} {k : Int → Prop} (hw : Wd G ((injC SB) S) H) (hS : va_S (AG G) s.heap H locs) {xv1 : Int32} {x1 : Int} (xt1 : xv1.toInt = x1) (hl : lv_has ls 3 [(0, .ref (G.2.2 1034)), (1, .int xv1)])  (hP8 : ∀ {H : Heap} {locs : List Loc} {ls : Array Slot} {yv1 : Int32} {y1 : Int}, yv1.toInt = y1 → Wd G ((injC SB) S) H → va_S (AG G) s.heap H locs → lv_has ls 3 [(0, .ref (G.2.2 1034)), (1, .int yv1)] → P8 y1 → W p l e (rmF 1 21) s m args below meth c H locs 0 0 (MQ below (QcI G (injC SB) (fun r u => k r ∧ u = S)) args s 0 0 (AG G)) (F0 m 8 ls [])) (h : wX0_hasTwins_8_b S x1 P8 k) : W p l e (rmF 1 21) s m args below meth c H locs 0 0 (MQ below (QcI G (injC SB) (fun r u => k r ∧ u = S)) args s 0 0 (AG G)) (F0 m 8 ls []) := by
  refine lv_iload_n C.1.1 C.1.2.1 dX0_hasTwins_8 rfl (lv_at hl 1 rfl) ?_
  refine lv_aload_n C.1.1 C.1.2.1 dX0_hasTwins_9 rfl (lv_at hl 0 rfl) ?_
  obtain ⟨x_1, e1⟩ : ∃ z : Int, z = S 1034 0 := ⟨_, rfl⟩
  obtain ⟨o1, h⟩ := h x_1 e1
  refine y_getO C fl_X0_18 hw (ock_0 SB) rfl e1 o1 dX0_hasTwins_10 ?_
  refine y_getI C fl_X0_63 hw (oc_of SB o1) rfl dX0_hasTwins_13 (fun v2 t2 => ?_)
  refine y_icmp_ge C xt1 t2 dX0_hasTwins_16 (tgt := 70) (by decide) (fun c3 => ?_) (fun c3 => ?_)
  · have h := h.1 c3
    refine y_iconst C dX0_hasTwins_70 ⟨by decide, by decide⟩ (fun v4 t4 => ?_)
    exact y_zret C hw hS t4 (Or.inl rfl) ⟨h, rfl⟩ dX0_hasTwins_71
  · have h := h.2 c3
    refine lv_aload_n C.1.1 C.1.2.1 dX0_hasTwins_19 rfl (lv_at hl 0 rfl) ?_
    obtain ⟨x_5, e5⟩ : ∃ z : Int, z = S 1034 1 := ⟨_, rfl⟩
    obtain ⟨o5, h⟩ := h x_5 e5
    refine y_getO C fl_X0_28 hw (ock_0 SB) rfl e5 o5 dX0_hasTwins_20 ?_
    refine y_getI C fl_X0_57 hw (oc_of SB o5) rfl dX0_hasTwins_23 (fun v6 t6 => ?_)
    obtain ⟨x_7, e7⟩ : ∃ z : Int, z = S x_5 16 := ⟨_, rfl⟩
    have h := h x_7 e7
    have t7 := t6.trans e7.symm
    refine lv_istore_n (lv' := [(2, .int v6), (0, .ref (G.2.2 1034)), (1, .int xv1)]) C.1.1 C.1.2.1 dX0_hasTwins_26 rfl hl (by decide) rfl (fun ls hl => ?_)
    exact uX0_hasTwins_27 C hw hS xt1 t7 (lv_sub hl [1, 2, 0] rfl) hP8 h
set_option maxHeartbeats 4000000 in
set_option maxRecDepth 10000 in
theorem uX0_hasTwins_8 {p : Program} {l : Launch} {e : Env} {s : State} {m : MethodId} {args : Array Value} {below : List Frame} {meth : Method} {c : Code} {G : GG} {SB : St} (C : Cx p s m args meth c G RX0 cX0_hasTwins 3 (some .boolean)) {S : St} {H : Heap} {locs : List Loc} {ls : Array Slot}  {k : Int → Prop} (hw : Wd G ((injC SB) S) H) (hS : va_S (AG G) s.heap H locs) {xv1 : Int32} {x1 : Int} (xt1 : xv1.toInt = x1) (hl : lv_has ls 3 [(0, .ref (G.2.2 1034)), (1, .int xv1)])  (h : wX0_hasTwins_8 S x1 k) : W p l e (rmF 1 21) s m args below meth c H locs 0 0 (MQ below (QcI G (injC SB) (fun r u => k r ∧ u = S)) args s 0 0 (AG G)) (F0 m 8 ls []) := by
  have key : ∀ (n : Nat) {H : Heap} {locs : List Loc} {ls : Array Slot} {xv1 : Int32} {x1 : Int}, xv1.toInt = x1 → Wd G ((injC SB) S) H → va_S (AG G) s.heap H locs → lv_has ls 3 [(0, .ref (G.2.2 1034)), (1, .int xv1)] → itP (fun (P : Int → Prop) (a : Int) => wX0_hasTwins_8_b S a (fun b0 => P (b0)) k) n (x1) → W p l e (rmF 1 21) s m args below meth c H locs 0 0 (MQ below (QcI G (injC SB) (fun r u => k r ∧ u = S)) args s 0 0 (AG G)) (F0 m 8 ls []) := by
    intro n
    induction n with
    | zero => intro H locs ls xv1 x1 xt1 hw hS hl h; exact h.elim
    | succ n ih =>
      intro H locs ls xv1 x1 xt1 hw hS hl h
      exact uX0_hasTwins_8_b C hw hS xt1 hl  (P8 := fun b0 => itP _ n (b0)) (fun q0 hw hS hl h => ih q0 hw hS hl h) h
  obtain ⟨n, hn⟩ := h
  exact key n xt1 hw hS hl hn
set_option maxHeartbeats 4000000 in
set_option maxRecDepth 10000 in
theorem uX0_hasTwins_0 {p : Program} {l : Launch} {e : Env} {s : State} {m : MethodId} {args : Array Value} {below : List Frame} {meth : Method} {c : Code} {G : GG} {SB : St} (C : Cx p s m args meth c G RX0 cX0_hasTwins 3 (some .boolean)) {S : St} {H : Heap} {locs : List Loc} {ls : Array Slot}  {k : Int → Prop} (hw : Wd G ((injC SB) S) H) (hS : va_S (AG G) s.heap H locs)  (hl : lv_has ls 3 [(0, .ref (G.2.2 1034))])  (h : wX0_hasTwins_0 S k) : W p l e (rmF 1 21) s m args below meth c H locs 0 0 (MQ below (QcI G (injC SB) (fun r u => k r ∧ u = S)) args s 0 0 (AG G)) (F0 m 0 ls []) := by
  refine lv_aload_n C.1.1 C.1.2.1 dX0_hasTwins_0 rfl (lv_at hl 0 rfl) ?_
  obtain ⟨x_1, e1⟩ : ∃ z : Int, z = S 1034 1 := ⟨_, rfl⟩
  obtain ⟨o1, h⟩ := h x_1 e1
  refine y_getO C fl_X0_28 hw (ock_0 SB) rfl e1 o1 dX0_hasTwins_1 ?_
  refine y_getI C fl_X0_57 hw (oc_of SB o1) rfl dX0_hasTwins_4 (fun v2 t2 => ?_)
  obtain ⟨x_3, e3⟩ : ∃ z : Int, z = S x_1 16 := ⟨_, rfl⟩
  have h := h x_3 e3
  have t3 := t2.trans e3.symm
  refine lv_istore_n (lv' := [(1, .int v2), (0, .ref (G.2.2 1034))]) C.1.1 C.1.2.1 dX0_hasTwins_7 rfl hl (by decide) rfl (fun ls hl => ?_)
  exact uX0_hasTwins_8 C hw hS t3 (lv_sub hl [1, 0] rfl)  h
theorem kX0_hasTwins (l : Launch) (G : GG) (SB S : St)  {k : Int → Prop} (h : wX0_hasTwins S k) : CnI l yX0_hasTwins cX0_hasTwins 3 (some .boolean) 1 21 G (injC SB) [.ref (G.2.2 1034)] S (fun r u => k r ∧ u = S) :=
  cn_body (by decide +kernel) (Nat.le_of_ble_eq_true rfl) (fun p e s m args below meth c ls C hw hl => uX0_hasTwins_0 C hw va_S.rf  (lv_sub hl [0] rfl) h)
set_option maxHeartbeats 4000000 in
set_option maxRecDepth 10000 in
theorem uX0_list_49 {p : Program} {l : Launch} {e : Env} {s : State} {m : MethodId} {args : Array Value} {below : List Frame} {meth : Method} {c : Code} {G : GG} {SB : St} (C : Cx p s m args meth c G RX0 cX0_list 3 (some .int)) {S : St} {H : Heap} {locs : List Loc} {ls : Array Slot}  {k : Int → St → Prop} (hw : Wd G ((injC SB) S) H) (hS : va_S (AG G) s.heap H locs) {xv1 : Int32} {x1 : Int} (xt1 : xv1.toInt = x1) {xv2 : Int32} {x2 : Int} (xt2 : xv2.toInt = x2) (hl : lv_has ls 3 [(1, .int xv1), (2, .int xv2)])  (h : wX0_list_49 S x1 x2 k) : W p l e (rmF 0 0) s m args below meth c H locs 0 0 (MQ below (QcI G (injC SB) k) args s 0 0 (AG G)) (F0 m 49 ls []) := by
  refine lv_iload_n C.1.1 C.1.2.1 dX0_list_49 rfl (lv_at hl 1 rfl) ?_
  refine y_iconst C dX0_list_50 ⟨by decide, by decide⟩ (fun v1 t1 => ?_)
  refine lv_iload_n C.1.1 C.1.2.1 dX0_list_51 rfl (lv_at hl 0 rfl) ?_
  refine y_ishl C t1 xt1 dX0_list_52 (fun v2 t2 => ?_)
  refine y_ior C xt2 t2 dX0_list_53 (fun v3 t3 => ?_)
  exact y_iret C hw hS t3 h dX0_list_54
set_option maxHeartbeats 4000000 in
set_option maxRecDepth 10000 in
theorem uX0_list_0 {p : Program} {l : Launch} {e : Env} {s : State} {m : MethodId} {args : Array Value} {below : List Frame} {meth : Method} {c : Code} {G : GG} {SB : St} (C : Cx p s m args meth c G RX0 cX0_list 3 (some .int)) {S : St} {H : Heap} {locs : List Loc} {ls : Array Slot}  {k : Int → St → Prop} (hw : Wd G ((injC SB) S) H) (hS : va_S (AG G) s.heap H locs) {xv1 : Int32} {x1 : Int} (xt1 : xv1.toInt = x1) {xv2 : Int32} {x2 : Int} (xt2 : xv2.toInt = x2) (hl : lv_has ls 3 [(0, .ref (G.2.2 1034)), (1, .int xv1), (2, .int xv2)])  (h : wX0_list_0 S x1 x2 k) : W p l e (rmF 0 0) s m args below meth c H locs 0 0 (MQ below (QcI G (injC SB) k) args s 0 0 (AG G)) (F0 m 0 ls []) := by
  refine lv_iload_n C.1.1 C.1.2.1 dX0_list_0 rfl (lv_at hl 2 rfl) ?_
  refine lv_iload_n C.1.1 C.1.2.1 dX0_list_1 rfl (lv_at hl 1 rfl) ?_
  refine y_iushr C xt2 xt1 dX0_list_2 (fun v1 t1 => ?_)
  refine y_iconst C dX0_list_3 ⟨by decide, by decide⟩ (fun v2 t2 => ?_)
  refine y_iand C t1 t2 dX0_list_4 (fun v3 t3 => ?_)
  refine y_if_ne C t3 dX0_list_5 (tgt := 49) (by decide) (fun c4 => ?_) (fun c4 => ?_)
  · have h := h.1 c4
    exact uX0_list_49 C hw hS xt1 xt2 (lv_sub hl [1, 2] rfl)  h
  · have h := h.2 c4
    refine lv_aload_n C.1.1 C.1.2.1 dX0_list_8 rfl (lv_at hl 0 rfl) ?_
    obtain ⟨x_5, e5⟩ : ∃ z : Int, z = S 1034 1 := ⟨_, rfl⟩
    obtain ⟨o5, h⟩ := h x_5 e5
    refine y_getO C fl_X0_28 hw (ock_0 SB) rfl e5 o5 dX0_list_9 ?_
    refine y_getI C fl_X0_89 hw (oc_of SB o5) rfl dX0_list_12 (fun v6 t6 => ?_)
    refine y_bipush C dX0_list_15 ⟨by decide, by decide⟩ (fun v7 t7 => ?_)
    refine y_icmp_ge C t6 t7 dX0_list_17 (tgt := 49) (by decide) (fun c8 => ?_) (fun c8 => ?_)
    · have h := h.1 c8
      exact uX0_list_49 C hw hS xt1 xt2 (lv_sub hl [1, 2] rfl)  h
    · have h := h.2 c8
      refine lv_aload_n C.1.1 C.1.2.1 dX0_list_20 rfl (lv_at hl 0 rfl) ?_
      obtain ⟨x_9, e9⟩ : ∃ z : Int, z = S 1034 1 := ⟨_, rfl⟩
      obtain ⟨o9, h⟩ := h x_9 e9
      refine y_getO C fl_X0_28 hw (ock_0 SB) rfl e9 o9 dX0_list_21 ?_
      refine y_getA C fl_X0_92 hw (oc_of SB o9) rfl (o := 4) rfl dX0_list_24 ?_
      refine lv_aload_n C.1.1 C.1.2.1 dX0_list_27 rfl (lv_at hl 0 rfl) ?_
      obtain ⟨x_11, e11⟩ : ∃ z : Int, z = S 1034 1 := ⟨_, rfl⟩
      obtain ⟨o11, h⟩ := h x_11 e11
      refine y_getO C fl_X0_28 hw (ock_0 SB) rfl e11 o11 dX0_list_28 ?_
      refine y_getI C fl_X0_89 hw (oc_of SB o11) rfl dX0_list_31 (fun v12 t12 => ?_)
      refine lv_iload_n C.1.1 C.1.2.1 dX0_list_34 rfl (lv_at hl 1 rfl) ?_
      obtain ⟨b13, h⟩ := h
      obtain ⟨S_13, e13⟩ : ∃ z : St, z = up S (x_9 + 4) (S x_11 12) x1 := ⟨_, rfl⟩
      have h := h S_13 e13
      refine y_iast C hw hS (ac_6_13 SB o9) t12 xt1 b13 dX0_list_35 (fun H locs hw hS => ?_)
      have hw : Wd G ((injC SB) S_13) H := by rw [e13]; exact hw
      refine lv_aload_n C.1.1 C.1.2.1 dX0_list_36 rfl (lv_at hl 0 rfl) ?_
      obtain ⟨x_14, e14⟩ : ∃ z : Int, z = S_13 1034 1 := ⟨_, rfl⟩
      obtain ⟨o14, h⟩ := h x_14 e14
      refine y_getO C fl_X0_28 hw (ock_0 SB) rfl e14 o14 dX0_list_37 ?_
      refine lv_dup C.1.1 C.1.2.1 dX0_list_40 rfl ?_
      refine y_getI C fl_X0_89 hw (oc_of SB o14) rfl dX0_list_41 (fun v15 t15 => ?_)
      refine y_iconst C dX0_list_44 ⟨by decide, by decide⟩ (fun v16 t16 => ?_)
      refine y_iadd C t15 t16 dX0_list_45 (fun v17 t17 => ?_)
      obtain ⟨S_18, e18⟩ : ∃ z : St, z = up S_13 x_14 12 (w32 (S_13 x_14 12 + 1)) := ⟨_, rfl⟩
      have h := h S_18 e18
      refine y_putI C fl_X0_89 fp_6_12 hw hS (oc_of SB o14) rfl t17 dX0_list_46 (fun H locs hw hS => ?_)
      have hw : Wd G ((injC SB) S_18) H := by rw [e18]; exact hw
      exact uX0_list_49 C hw hS xt1 xt2 (lv_sub hl [1, 2] rfl)  h
theorem kX0_list (l : Launch) (G : GG) (SB S : St) {xv1 : Int32} {x1 : Int} (xt1 : xv1.toInt = x1) {xv2 : Int32} {x2 : Int} (xt2 : xv2.toInt = x2) {k : Int → St → Prop} (h : wX0_list S x1 x2 k) : CnI l yX0_list cX0_list 3 (some .int) 0 0 G (injC SB) [.ref (G.2.2 1034), .int xv1, .int xv2] S k :=
  cn_body (by decide +kernel) (Nat.le_of_ble_eq_true rfl) (fun p e s m args below meth c ls C hw hl => uX0_list_0 C hw va_S.rf xt1 xt2 (lv_sub hl [0, 1, 2] rfl) h)
set_option maxHeartbeats 4000000 in
set_option maxRecDepth 10000 in
theorem uX0_takeArguments_84 {p : Program} {l : Launch} {e : Env} {s : State} {m : MethodId} {args : Array Value} {below : List Frame} {meth : Method} {c : Code} {G : GG} {SB : St} (C : Cx p s m args meth c G RX0 cX0_takeArguments 6 (some .boolean)) {S : St} {H : Heap} {locs : List Loc} {ls : Array Slot} {P12 : Int → St → Prop} {k : Int → St → Prop} (hw : Wd G ((injC SB) S) H) (hS : va_S (AG G) s.heap H locs) {x1 : Int} (xo1 : isO 6 x1) {xv2 : Int32} {x2 : Int} (xt2 : xv2.toInt = x2) {xv3 : Int32} {x3 : Int} (xt3 : xv3.toInt = x3) {xv4 : Int32} {x4 : Int} (xt4 : xv4.toInt = x4) {xv5 : Int32} {x5 : Int} (xt5 : xv5.toInt = x5) (hl : lv_has ls 6 [(0, .ref (G.2.2 1034)), (1, .ref (G.2.2 (x1).toNat)), (2, .int xv2), (3, .int xv3), (4, .int xv4), (5, .int xv5)]) (hP12 : ∀ {H : Heap} {locs : List Loc} {ls : Array Slot} {Sy : St} {yv4 : Int32} {y4 : Int}, yv4.toInt = y4 → Wd G ((injC SB) Sy) H → va_S (AG G) s.heap H locs → lv_has ls 6 [(0, .ref (G.2.2 1034)), (1, .ref (G.2.2 (x1).toNat)), (2, .int xv2), (3, .int xv3), (4, .int yv4)] → P12 y4 Sy → W p l e (rmF 1 23) s m args below meth c H locs 0 0 (MQ below (QcI G (injC SB) k) args s 0 0 (AG G)) (F0 m 12 ls [])) (h : wX0_takeArguments_84 S x1 x2 x3 x4 x5 P12 k) : W p l e (rmF 1 23) s m args below meth c H locs 0 0 (MQ below (QcI G (injC SB) k) args s 0 0 (AG G)) (F0 m 84 ls []) := by
  refine lv_aload_n C.1.1 C.1.2.1 dX0_takeArguments_84 rfl (lv_at hl 0 rfl) ?_
  obtain ⟨x_1, e1⟩ : ∃ z : Int, z = S 1034 1 := ⟨_, rfl⟩
  obtain ⟨o1, h⟩ := h x_1 e1
  refine y_getO C fl_X0_28 hw (ock_0 SB) rfl e1 o1 dX0_takeArguments_85 ?_
  refine lv_iload_n C.1.1 C.1.2.1 dX0_takeArguments_88 rfl (lv_at hl 2 rfl) ?_
  refine lv_iload C.1.1 C.1.2.1 dX0_takeArguments_89 (lv_at hl 4 rfl) ?_
  refine lv_iload C.1.1 C.1.2.1 dX0_takeArguments_91 (lv_at hl 5 rfl) ?_
  refine y_cVV C (As := [.int xv2, .int xv4, .int xv5]) (rest := []) ml_X0_109 (kX6_setArgument l G SB S o1 xt2 xt4 xt5 h) (oc_of SB o1) (T := TX6) (N := 20) rfl (by decide) ⟨(Nat.le_of_ble_eq_true rfl), (Nat.le_of_ble_eq_true rfl)⟩ hl.1 rfl rfl (Nat.le_of_ble_eq_true rfl) hw hS dX0_takeArguments_93 (fun S_2 H locs h hw hS => ?_)
  obtain ⟨x_3, e3⟩ : ∃ z : Int, z = w32 (x4 + 1) := ⟨_, rfl⟩
  have h := h x_3 e3
  obtain ⟨v3, t3, g3⟩ : ∃ z : Int32, z.toInt = x_3 ∧ xv4 + Int32.ofInt 1 = z := ⟨_, (ti_inc xt4 ⟨by decide, by decide⟩).trans e3.symm, rfl⟩
  refine lv_iinc (v := v3) (lv' := [(4, .int v3), (0, .ref (G.2.2 1034)), (1, .ref (G.2.2 (x1).toNat)), (2, .int xv2), (3, .int xv3), (5, .int xv5)]) C.1.1 C.1.2.1 dX0_takeArguments_96 hl (k := 4) rfl g3 (by decide) rfl (fun ls hl => ?_)
  refine lv_goto (tgt := 12) C.1.1 C.1.2.1 dX0_takeArguments_99 (by decide) ?_
  exact hP12 t3 hw hS (lv_sub hl [1, 2, 3, 4, 0] rfl) h
set_option maxHeartbeats 4000000 in
set_option maxRecDepth 10000 in
theorem uX0_takeArguments_63 {p : Program} {l : Launch} {e : Env} {s : State} {m : MethodId} {args : Array Value} {below : List Frame} {meth : Method} {c : Code} {G : GG} {SB : St} (C : Cx p s m args meth c G RX0 cX0_takeArguments 6 (some .boolean)) {S : St} {H : Heap} {locs : List Loc} {ls : Array Slot} {P12 : Int → St → Prop} {k : Int → St → Prop} (hw : Wd G ((injC SB) S) H) (hS : va_S (AG G) s.heap H locs) {x1 : Int} (xo1 : isO 6 x1) {xv2 : Int32} {x2 : Int} (xt2 : xv2.toInt = x2) {xv3 : Int32} {x3 : Int} (xt3 : xv3.toInt = x3) {xv4 : Int32} {x4 : Int} (xt4 : xv4.toInt = x4) {xv5 : Int32} {x5 : Int} (xt5 : xv5.toInt = x5) (hl : lv_has ls 6 [(0, .ref (G.2.2 1034)), (1, .ref (G.2.2 (x1).toNat)), (2, .int xv2), (3, .int xv3), (4, .int xv4), (5, .int xv5)]) (hP12 : ∀ {H : Heap} {locs : List Loc} {ls : Array Slot} {Sy : St} {yv4 : Int32} {y4 : Int}, yv4.toInt = y4 → Wd G ((injC SB) Sy) H → va_S (AG G) s.heap H locs → lv_has ls 6 [(0, .ref (G.2.2 1034)), (1, .ref (G.2.2 (x1).toNat)), (2, .int xv2), (3, .int xv3), (4, .int yv4)] → P12 y4 Sy → W p l e (rmF 1 23) s m args below meth c H locs 0 0 (MQ below (QcI G (injC SB) k) args s 0 0 (AG G)) (F0 m 12 ls [])) (h : wX0_takeArguments_63 S x1 x2 x3 x4 x5 P12 k) : W p l e (rmF 1 23) s m args below meth c H locs 0 0 (MQ below (QcI G (injC SB) k) args s 0 0 (AG G)) (F0 m 63 ls []) := by
  refine lv_iload_n C.1.1 C.1.2.1 dX0_takeArguments_63 rfl (lv_at hl 3 rfl) ?_
  refine y_if_eq C xt3 dX0_takeArguments_64 (tgt := 84) (by decide) (fun c1 => ?_) (fun c1 => ?_)
  · have h := h.1 c1
    exact uX0_takeArguments_84 C hw hS xo1 xt2 xt3 xt4 xt5 (lv_sub hl [0, 1, 2, 3, 4, 5] rfl) hP12 h
  · have h := h.2 c1
    refine lv_aload_n C.1.1 C.1.2.1 dX0_takeArguments_67 rfl (lv_at hl 0 rfl) ?_
    obtain ⟨x_2, e2⟩ : ∃ z : Int, z = S 1034 1 := ⟨_, rfl⟩
    obtain ⟨o2, h⟩ := h x_2 e2
    refine y_getO C fl_X0_28 hw (ock_0 SB) rfl e2 o2 dX0_takeArguments_68 ?_
    refine lv_iload_n C.1.1 C.1.2.1 dX0_takeArguments_71 rfl (lv_at hl 2 rfl) ?_
    refine lv_iload C.1.1 C.1.2.1 dX0_takeArguments_72 (lv_at hl 4 rfl) ?_
    refine y_cVIp C (As := [.int xv2, .int xv4]) (rest := []) ml_X0_106 (kX6_argument l G SB S o2 xt2 xt4 h) (oc_of SB o2) (T := TX6) (N := 20) rfl (by decide) ⟨(Nat.le_of_ble_eq_true rfl), (Nat.le_of_ble_eq_true rfl)⟩ hl.1 rfl rfl (Nat.le_of_ble_eq_true rfl) hw hS dX0_takeArguments_74 (fun v3 x_3 H locs t3 h hw hS => ?_)
    refine lv_iload C.1.1 C.1.2.1 dX0_takeArguments_77 (lv_at hl 5 rfl) ?_
    refine y_icmp_eq C t3 xt5 dX0_takeArguments_79 (tgt := 84) (by decide) (fun c4 => ?_) (fun c4 => ?_)
    · have h := h.1 c4
      exact uX0_takeArguments_84 C hw hS xo1 xt2 xt3 xt4 xt5 (lv_sub hl [0, 1, 2, 3, 4, 5] rfl) hP12 h
    · have h := h.2 c4
      refine y_iconst C dX0_takeArguments_82 ⟨by decide, by decide⟩ (fun v5 t5 => ?_)
      exact y_zret C hw hS t5 (Or.inl rfl) h dX0_takeArguments_83
set_option maxHeartbeats 4000000 in
set_option maxRecDepth 10000 in
theorem uX0_takeArguments_12_b {p : Program} {l : Launch} {e : Env} {s : State} {m : MethodId} {args : Array Value} {below : List Frame} {meth : Method} {c : Code} {G : GG} {SB : St} (C : Cx p s m args meth c G RX0 cX0_takeArguments 6 (some .boolean)) {S : St} {H : Heap} {locs : List Loc} {ls : Array Slot}  {P12 : Int → St → Prop} {k : Int → St → Prop} (hw : Wd G ((injC SB) S) H) (hS : va_S (AG G) s.heap H locs) {x1 : Int} (xo1 : isO 6 x1) {xv2 : Int32} {x2 : Int} (xt2 : xv2.toInt = x2) {xv3 : Int32} {x3 : Int} (xt3 : xv3.toInt = x3) {xv4 : Int32} {x4 : Int} (xt4 : xv4.toInt = x4) (hl : lv_has ls 6 [(0, .ref (G.2.2 1034)), (1, .ref (G.2.2 (x1).toNat)), (2, .int xv2), (3, .int xv3), (4, .int xv4)])  (hP12 : ∀ {H : Heap} {locs : List Loc} {ls : Array Slot} {Sy : St} {yv4 : Int32} {y4 : Int}, yv4.toInt = y4 → Wd G ((injC SB) Sy) H → va_S (AG G) s.heap H locs → lv_has ls 6 [(0, .ref (G.2.2 1034)), (1, .ref (G.2.2 (x1).toNat)), (2, .int xv2), (3, .int xv3), (4, .int yv4)] → P12 y4 Sy → W p l e (rmF 1 23) s m args below meth c H locs 0 0 (MQ below (QcI G (injC SB) k) args s 0 0 (AG G)) (F0 m 12 ls [])) (h : wX0_takeArguments_12_b S x1 x2 x3 x4 P12 k) : W p l e (rmF 1 23) s m args below meth c H locs 0 0 (MQ below (QcI G (injC SB) k) args s 0 0 (AG G)) (F0 m 12 ls []) := by
  refine lv_iload C.1.1 C.1.2.1 dX0_takeArguments_12 (lv_at hl 4 rfl) ?_
  refine lv_aload_n C.1.1 C.1.2.1 dX0_takeArguments_14 rfl (lv_at hl 0 rfl) ?_
  obtain ⟨x_1, e1⟩ : ∃ z : Int, z = S 1034 0 := ⟨_, rfl⟩
  obtain ⟨o1, h⟩ := h x_1 e1
  refine y_getO C fl_X0_18 hw (ock_0 SB) rfl e1 o1 dX0_takeArguments_15 ?_
  refine y_getA C fl_X0_22 hw (oc_of SB o1) rfl (o := 1) rfl dX0_takeArguments_18 ?_
  refine lv_iload_n C.1.1 C.1.2.1 dX0_takeArguments_21 rfl (lv_at hl 2 rfl) ?_
  obtain ⟨b3, h⟩ := h
  obtain ⟨x_3, e3⟩ : ∃ z : Int, z = x_1 + 6 + 6 * x2 := ⟨_, rfl⟩
  have h := h x_3 e3
  have o3 : isO 6 x_3 := isO_ty o1 b3 e3
  refine y_tyO C hw o1 xt2 b3 e3 dX0_takeArguments_22 ?_
  refine y_getI C fl_X0_103 hw (oc_of SB o3) rfl dX0_takeArguments_23 (fun v4 t4 => ?_)
  refine y_icmp_ge C xt4 t4 dX0_takeArguments_26 (tgt := 102) (by decide) (fun c5 => ?_) (fun c5 => ?_)
  · have h := h.1 c5
    refine lv_aload_n C.1.1 C.1.2.1 dX0_takeArguments_102 rfl (lv_at hl 0 rfl) ?_
    obtain ⟨x_6, e6⟩ : ∃ z : Int, z = S 1034 1 := ⟨_, rfl⟩
    obtain ⟨o6, h⟩ := h x_6 e6
    refine y_getO C fl_X0_28 hw (ock_0 SB) rfl e6 o6 dX0_takeArguments_103 ?_
    refine lv_dup C.1.1 C.1.2.1 dX0_takeArguments_106 rfl ?_
    refine y_getI C fl_X0_113 hw (oc_of SB o6) rfl dX0_takeArguments_107 (fun v7 t7 => ?_)
    refine y_iconst C dX0_takeArguments_110 ⟨by decide, by decide⟩ (fun v8 t8 => ?_)
    refine lv_iload_n C.1.1 C.1.2.1 dX0_takeArguments_111 rfl (lv_at hl 2 rfl) ?_
    refine y_ishl C t8 xt2 dX0_takeArguments_112 (fun v9 t9 => ?_)
    refine y_ior C t7 t9 dX0_takeArguments_113 (fun v10 t10 => ?_)
    obtain ⟨S_11, e11⟩ : ∃ z : St, z = up S x_6 14 (or32 (S x_6 14) (shl32 1 x2)) := ⟨_, rfl⟩
    have h := h S_11 e11
    refine y_putI C fl_X0_113 fp_6_14 hw hS (oc_of SB o6) rfl t10 dX0_takeArguments_114 (fun H locs hw hS => ?_)
    have hw : Wd G ((injC SB) S_11) H := by rw [e11]; exact hw
    refine y_iconst C dX0_takeArguments_117 ⟨by decide, by decide⟩ (fun v12 t12 => ?_)
    exact y_zret C hw hS t12 (Or.inr rfl) h dX0_takeArguments_118
  · have h := h.2 c5
    refine lv_aload_n C.1.1 C.1.2.1 dX0_takeArguments_29 rfl (lv_at hl 1 rfl) ?_
    refine lv_iload_n C.1.1 C.1.2.1 dX0_takeArguments_30 rfl (lv_at hl 2 rfl) ?_
    refine lv_iload C.1.1 C.1.2.1 dX0_takeArguments_31 (lv_at hl 4 rfl) ?_
    refine y_cVIp C (As := [.int xv2, .int xv4]) (rest := []) ml_X0_106 (kX6_argument l G SB S xo1 xt2 xt4 h) (oc_of SB xo1) (T := TX6) (N := 20) rfl (by decide) ⟨(Nat.le_of_ble_eq_true rfl), (Nat.le_of_ble_eq_true rfl)⟩ hl.1 rfl rfl (Nat.le_of_ble_eq_true rfl) hw hS dX0_takeArguments_33 (fun v13 x_13 H locs t13 h hw hS => ?_)
    refine lv_istore (lv' := [(5, .int v13), (0, .ref (G.2.2 1034)), (1, .ref (G.2.2 (x1).toNat)), (2, .int xv2), (3, .int xv3), (4, .int xv4)]) C.1.1 C.1.2.1 dX0_takeArguments_36 hl (by decide) rfl (fun ls hl => ?_)
    refine lv_iload C.1.1 C.1.2.1 dX0_takeArguments_38 (lv_at hl 0 rfl) ?_
    refine y_bipush C dX0_takeArguments_40 ⟨by decide, by decide⟩ (fun v14 t14 => ?_)
    refine y_icmp_lt C t13 t14 dX0_takeArguments_42 (tgt := 63) (by decide) (fun c15 => ?_) (fun c15 => ?_)
    · have h := h.1 c15
      exact uX0_takeArguments_63 C hw hS xo1 xt2 xt3 xt4 t13 (lv_sub hl [1, 2, 3, 4, 5, 0] rfl) hP12 h
    · have h := h.2 c15
      refine lv_aload_n C.1.1 C.1.2.1 dX0_takeArguments_45 rfl (lv_at hl 1 rfl) ?_
      obtain ⟨x_16, e16⟩ : ∃ z : Int, z = S 1034 1 := ⟨_, rfl⟩
      obtain ⟨o16, h⟩ := h x_16 e16
      refine y_getO C fl_X0_28 hw (ock_0 SB) rfl e16 o16 dX0_takeArguments_46 ?_
      refine lv_aload_n C.1.1 C.1.2.1 dX0_takeArguments_49 rfl (lv_at hl 2 rfl) ?_
      refine y_getI C fl_X0_82 hw (oc_of SB xo1) rfl dX0_takeArguments_50 (fun v17 t17 => ?_)
      refine lv_iload C.1.1 C.1.2.1 dX0_takeArguments_53 (lv_at hl 0 rfl) ?_
      refine y_bipush C dX0_takeArguments_55 ⟨by decide, by decide⟩ (fun v18 t18 => ?_)
      refine y_isub C t13 t18 dX0_takeArguments_57 (fun v19 t19 => ?_)
      refine y_cVIp C (As := [.int v17, .int v19]) (rest := []) ml_X0_106 (kX6_argument l G SB S o16 t17 t19 h) (oc_of SB o16) (T := TX6) (N := 20) rfl (by decide) ⟨(Nat.le_of_ble_eq_true rfl), (Nat.le_of_ble_eq_true rfl)⟩ hl.1 rfl rfl (Nat.le_of_ble_eq_true rfl) hw hS dX0_takeArguments_58 (fun v20 x_20 H locs t20 h hw hS => ?_)
      refine lv_istore (lv' := [(5, .int v20), (0, .ref (G.2.2 1034)), (1, .ref (G.2.2 (x1).toNat)), (2, .int xv2), (3, .int xv3), (4, .int xv4)]) C.1.1 C.1.2.1 dX0_takeArguments_61 hl (by decide) rfl (fun ls hl => ?_)
      exact uX0_takeArguments_63 C hw hS xo1 xt2 xt3 xt4 t20 (lv_sub hl [1, 2, 3, 4, 5, 0] rfl) hP12 h
set_option maxHeartbeats 4000000 in
set_option maxRecDepth 10000 in
theorem uX0_takeArguments_12 {p : Program} {l : Launch} {e : Env} {s : State} {m : MethodId} {args : Array Value} {below : List Frame} {meth : Method} {c : Code} {G : GG} {SB : St} (C : Cx p s m args meth c G RX0 cX0_takeArguments 6 (some .boolean)) {S : St} {H : Heap} {locs : List Loc} {ls : Array Slot}  {k : Int → St → Prop} (hw : Wd G ((injC SB) S) H) (hS : va_S (AG G) s.heap H locs) {x1 : Int} (xo1 : isO 6 x1) {xv2 : Int32} {x2 : Int} (xt2 : xv2.toInt = x2) {xv3 : Int32} {x3 : Int} (xt3 : xv3.toInt = x3) {xv4 : Int32} {x4 : Int} (xt4 : xv4.toInt = x4) (hl : lv_has ls 6 [(0, .ref (G.2.2 1034)), (1, .ref (G.2.2 (x1).toNat)), (2, .int xv2), (3, .int xv3), (4, .int xv4)])  (h : wX0_takeArguments_12 S x1 x2 x3 x4 k) : W p l e (rmF 1 23) s m args below meth c H locs 0 0 (MQ below (QcI G (injC SB) k) args s 0 0 (AG G)) (F0 m 12 ls []) := by
  have key : ∀ (n : Nat) {H : Heap} {locs : List Loc} {ls : Array Slot} {S : St} {xv4 : Int32} {x4 : Int}, xv4.toInt = x4 → Wd G ((injC SB) S) H → va_S (AG G) s.heap H locs → lv_has ls 6 [(0, .ref (G.2.2 1034)), (1, .ref (G.2.2 (x1).toNat)), (2, .int xv2), (3, .int xv3), (4, .int xv4)] → itP (fun (P : Int × St → Prop) (a : Int × St) => wX0_takeArguments_12_b a.2 x1 x2 x3 a.1 (fun b0 b1 => P (b0, b1)) k) n (x4, S) → W p l e (rmF 1 23) s m args below meth c H locs 0 0 (MQ below (QcI G (injC SB) k) args s 0 0 (AG G)) (F0 m 12 ls []) := by
    intro n
    induction n with
    | zero => intro H locs ls S xv4 x4 xt4 hw hS hl h; exact h.elim
    | succ n ih =>
      intro H locs ls S xv4 x4 xt4 hw hS hl h
      exact uX0_takeArguments_12_b C hw hS xo1 xt2 xt3 xt4 hl  (P12 := fun b0 b1 => itP _ n (b0, b1)) (fun q0 hw hS hl h => ih q0 hw hS hl h) h
  obtain ⟨n, hn⟩ := h
  exact key n xt4 hw hS hl hn
set_option maxHeartbeats 4000000 in
set_option maxRecDepth 10000 in
theorem uX0_takeArguments_0 {p : Program} {l : Launch} {e : Env} {s : State} {m : MethodId} {args : Array Value} {below : List Frame} {meth : Method} {c : Code} {G : GG} {SB : St} (C : Cx p s m args meth c G RX0 cX0_takeArguments 6 (some .boolean)) {S : St} {H : Heap} {locs : List Loc} {ls : Array Slot}  {k : Int → St → Prop} (hw : Wd G ((injC SB) S) H) (hS : va_S (AG G) s.heap H locs) {x1 : Int} (xo1 : isO 6 x1) {xv2 : Int32} {x2 : Int} (xt2 : xv2.toInt = x2) (hl : lv_has ls 6 [(0, .ref (G.2.2 1034)), (1, .ref (G.2.2 (x1).toNat)), (2, .int xv2)])  (h : wX0_takeArguments_0 S x1 x2 k) : W p l e (rmF 1 23) s m args below meth c H locs 0 0 (MQ below (QcI G (injC SB) k) args s 0 0 (AG G)) (F0 m 0 ls []) := by
  refine lv_aload_n C.1.1 C.1.2.1 dX0_takeArguments_0 rfl (lv_at hl 0 rfl) ?_
  obtain ⟨x_1, e1⟩ : ∃ z : Int, z = S 1034 1 := ⟨_, rfl⟩
  obtain ⟨o1, h⟩ := h x_1 e1
  refine y_getO C fl_X0_28 hw (ock_0 SB) rfl e1 o1 dX0_takeArguments_1 ?_
  refine lv_iload_n C.1.1 C.1.2.1 dX0_takeArguments_4 rfl (lv_at hl 2 rfl) ?_
  refine y_cVIp C (As := [.int xv2]) (rest := []) ml_X0_99 (kX6_isBelow l G SB S o1 xt2 h) (oc_of SB o1) (T := TX6) (N := 20) rfl (by decide) ⟨(Nat.le_of_ble_eq_true rfl), (Nat.le_of_ble_eq_true rfl)⟩ hl.1 rfl rfl (Nat.le_of_ble_eq_true rfl) hw hS dX0_takeArguments_5 (fun v2 x_2 H locs t2 h hw hS => ?_)
  refine lv_istore_n (lv' := [(3, .int v2), (0, .ref (G.2.2 1034)), (1, .ref (G.2.2 (x1).toNat)), (2, .int xv2)]) C.1.1 C.1.2.1 dX0_takeArguments_8 rfl hl (by decide) rfl (fun ls hl => ?_)
  refine y_iconst C dX0_takeArguments_9 ⟨by decide, by decide⟩ (fun v3 t3 => ?_)
  refine lv_istore (lv' := [(4, .int v3), (3, .int v2), (0, .ref (G.2.2 1034)), (1, .ref (G.2.2 (x1).toNat)), (2, .int xv2)]) C.1.1 C.1.2.1 dX0_takeArguments_10 hl (by decide) rfl (fun ls hl => ?_)
  exact uX0_takeArguments_12 C hw hS xo1 xt2 t2 t3 (lv_sub hl [2, 3, 4, 1, 0] rfl)  h
theorem kX0_takeArguments (l : Launch) (G : GG) (SB S : St) {x1 : Int} (xo1 : isO 6 x1) {xv2 : Int32} {x2 : Int} (xt2 : xv2.toInt = x2) {k : Int → St → Prop} (h : wX0_takeArguments S x1 x2 k) : CnI l yX0_takeArguments cX0_takeArguments 6 (some .boolean) 1 23 G (injC SB) [.ref (G.2.2 1034), .ref (G.2.2 (x1).toNat), .int xv2] S k :=
  cn_body (by decide +kernel) (Nat.le_of_ble_eq_true rfl) (fun p e s m args below meth c ls C hw hl => uX0_takeArguments_0 C hw va_S.rf xo1 xt2 (lv_sub hl [0, 1, 2] rfl) h)
set_option maxHeartbeats 4000000 in
set_option maxRecDepth 10000 in
theorem uX0_gatherAbove_46_b {p : Program} {l : Launch} {e : Env} {s : State} {m : MethodId} {args : Array Value} {below : List Frame} {meth : Method} {c : Code} {G : GG} {SB : St} (C : Cx p s m args meth c G RX0 cX0_gatherAbove 6 (some .boolean)) {S : St} {H : Heap} {locs : List Loc} {ls : Array Slot} {P4 : Int → Int → St → Prop} {P46 : Int → Int → St → Prop} {k : Int → St → Prop} (hw : Wd G ((injC SB) S) H) (hS : va_S (AG G) s.heap H locs) {xv1 : Int32} {x1 : Int} (xt1 : xv1.toInt = x1) {xv2 : Int32} {x2 : Int} (xt2 : xv2.toInt = x2) {x3 : Int} (xo3 : isO 6 x3) {xv4 : Int32} {x4 : Int} (xt4 : xv4.toInt = x4) (hl : lv_has ls 6 [(0, .ref (G.2.2 1034)), (1, .int xv1), (2, .int xv2), (3, .ref (G.2.2 (x3).toNat)), (4, .int xv4)]) (hP4 : ∀ {H : Heap} {locs : List Loc} {ls : Array Slot} {Sy : St} {yv1 : Int32} {y1 : Int} {yv2 : Int32} {y2 : Int}, yv1.toInt = y1 → yv2.toInt = y2 → Wd G ((injC SB) Sy) H → va_S (AG G) s.heap H locs → lv_has ls 6 [(0, .ref (G.2.2 1034)), (1, .int yv1), (2, .int yv2)] → P4 y1 y2 Sy → W p l e (rmF 2 48) s m args below meth c H locs 0 0 (MQ below (QcI G (injC SB) k) args s 0 0 (AG G)) (F0 m 4 ls [])) (hP46 : ∀ {H : Heap} {locs : List Loc} {ls : Array Slot} {Sy : St} {yv1 : Int32} {y1 : Int} {yv4 : Int32} {y4 : Int}, yv1.toInt = y1 → yv4.toInt = y4 → Wd G ((injC SB) Sy) H → va_S (AG G) s.heap H locs → lv_has ls 6 [(0, .ref (G.2.2 1034)), (1, .int yv1), (2, .int xv2), (3, .ref (G.2.2 (x3).toNat)), (4, .int yv4)] → P46 y1 y4 Sy → W p l e (rmF 2 48) s m args below meth c H locs 0 0 (MQ below (QcI G (injC SB) k) args s 0 0 (AG G)) (F0 m 46 ls [])) (h : wX0_gatherAbove_46_b S x1 x2 x3 x4 P4 P46 k) : W p l e (rmF 2 48) s m args below meth c H locs 0 0 (MQ below (QcI G (injC SB) k) args s 0 0 (AG G)) (F0 m 46 ls []) := by
  refine lv_iload C.1.1 C.1.2.1 dX0_gatherAbove_46 (lv_at hl 4 rfl) ?_
  refine lv_aload_n C.1.1 C.1.2.1 dX0_gatherAbove_48 rfl (lv_at hl 3 rfl) ?_
  refine y_getI C fl_X0_89 hw (oc_of SB xo3) rfl dX0_gatherAbove_49 (fun v1 t1 => ?_)
  refine y_icmp_ge C xt4 t1 dX0_gatherAbove_52 (tgt := 90) (by decide) (fun c2 => ?_) (fun c2 => ?_)
  · have h := h.1 c2
    obtain ⟨x_3, e3⟩ : ∃ z : Int, z = w32 (x2 + 1) := ⟨_, rfl⟩
    have h := h x_3 e3
    obtain ⟨v3, t3, g3⟩ : ∃ z : Int32, z.toInt = x_3 ∧ xv2 + Int32.ofInt 1 = z := ⟨_, (ti_inc xt2 ⟨by decide, by decide⟩).trans e3.symm, rfl⟩
    refine lv_iinc (v := v3) (lv' := [(2, .int v3), (0, .ref (G.2.2 1034)), (1, .int xv1), (3, .ref (G.2.2 (x3).toNat)), (4, .int xv4)]) C.1.1 C.1.2.1 dX0_gatherAbove_90 hl (k := 2) rfl g3 (by decide) rfl (fun ls hl => ?_)
    refine lv_goto (tgt := 4) C.1.1 C.1.2.1 dX0_gatherAbove_93 (by decide) ?_
    exact hP4 xt1 t3 hw hS (lv_sub hl [1, 2, 0] rfl) h
  · have h := h.2 c2
    refine lv_aload_n C.1.1 C.1.2.1 dX0_gatherAbove_55 rfl (lv_at hl 3 rfl) ?_
    refine y_getA C fl_X0_92 hw (oc_of SB xo3) rfl (o := 4) rfl dX0_gatherAbove_56 ?_
    refine lv_iload C.1.1 C.1.2.1 dX0_gatherAbove_59 (lv_at hl 4 rfl) ?_
    obtain ⟨b5, h⟩ := h
    refine y_iald C hw (ac_6_13 SB xo3) xt4 b5 dX0_gatherAbove_61 (fun v5 t5 => ?_)
    obtain ⟨x_6, e6⟩ : ∃ z : Int, z = S (x3 + 4) x4 := ⟨_, rfl⟩
    have h := h x_6 e6
    have t6 := t5.trans e6.symm
    refine lv_istore (lv' := [(5, .int v5), (0, .ref (G.2.2 1034)), (1, .int xv1), (2, .int xv2), (3, .ref (G.2.2 (x3).toNat)), (4, .int xv4)]) C.1.1 C.1.2.1 dX0_gatherAbove_62 hl (by decide) rfl (fun ls hl => ?_)
    refine lv_aload_n C.1.1 C.1.2.1 dX0_gatherAbove_64 rfl (lv_at hl 1 rfl) ?_
    refine lv_aload_n C.1.1 C.1.2.1 dX0_gatherAbove_65 rfl (lv_at hl 4 rfl) ?_
    refine lv_iload C.1.1 C.1.2.1 dX0_gatherAbove_66 (lv_at hl 0 rfl) ?_
    refine y_cVI C (As := [.ref (G.2.2 (x3).toNat), .int v5]) (rest := []) ml_X0_95 (kX0_takeArguments l G SB S xo3 t6 h) (ock_0 SB) (T := TX0) (N := 5) rfl (by decide) ⟨(Nat.le_of_ble_eq_true rfl), (Nat.le_of_ble_eq_true rfl)⟩ hl.1 rfl rfl (Nat.le_of_ble_eq_true rfl) hw hS dX0_gatherAbove_68 (fun v7 x_7 S_7 H locs t7 h hw hS => ?_)
    refine y_if_ne C t7 dX0_gatherAbove_71 (tgt := 76) (by decide) (fun c8 => ?_) (fun c8 => ?_)
    · have h := h.1 c8
      refine lv_aload_n C.1.1 C.1.2.1 dX0_gatherAbove_76 rfl (lv_at hl 1 rfl) ?_
      refine lv_iload C.1.1 C.1.2.1 dX0_gatherAbove_77 (lv_at hl 0 rfl) ?_
      refine lv_iload_n C.1.1 C.1.2.1 dX0_gatherAbove_79 rfl (lv_at hl 2 rfl) ?_
      refine y_cVI C (As := [.int v5, .int xv1]) (rest := []) ml_X0_85 (kX0_list l G SB S_7 t6 xt1 h) (ock_0 SB) (T := TX0) (N := 5) rfl (by decide) ⟨(Nat.le_of_ble_eq_true rfl), (Nat.le_of_ble_eq_true rfl)⟩ hl.1 rfl rfl (Nat.le_of_ble_eq_true rfl) hw hS dX0_gatherAbove_80 (fun v9 x_9 S_9 H locs t9 h hw hS => ?_)
      refine lv_istore_n (lv' := [(1, .int v9), (5, .int v5), (0, .ref (G.2.2 1034)), (2, .int xv2), (3, .ref (G.2.2 (x3).toNat)), (4, .int xv4)]) C.1.1 C.1.2.1 dX0_gatherAbove_83 rfl hl (by decide) rfl (fun ls hl => ?_)
      obtain ⟨x_10, e10⟩ : ∃ z : Int, z = w32 (x4 + 1) := ⟨_, rfl⟩
      have h := h x_10 e10
      obtain ⟨v10, t10, g10⟩ : ∃ z : Int32, z.toInt = x_10 ∧ xv4 + Int32.ofInt 1 = z := ⟨_, (ti_inc xt4 ⟨by decide, by decide⟩).trans e10.symm, rfl⟩
      refine lv_iinc (v := v10) (lv' := [(4, .int v10), (1, .int v9), (5, .int v5), (0, .ref (G.2.2 1034)), (2, .int xv2), (3, .ref (G.2.2 (x3).toNat))]) C.1.1 C.1.2.1 dX0_gatherAbove_84 hl (k := 5) rfl g10 (by decide) rfl (fun ls hl => ?_)
      refine lv_goto (tgt := 46) C.1.1 C.1.2.1 dX0_gatherAbove_87 (by decide) ?_
      exact hP46 t9 t10 hw hS (lv_sub hl [3, 1, 4, 5, 0] rfl) h
    · have h := h.2 c8
      refine y_iconst C dX0_gatherAbove_74 ⟨by decide, by decide⟩ (fun v11 t11 => ?_)
      exact y_zret C hw hS t11 (Or.inl rfl) h dX0_gatherAbove_75
set_option maxHeartbeats 4000000 in
set_option maxRecDepth 10000 in
theorem uX0_gatherAbove_46 {p : Program} {l : Launch} {e : Env} {s : State} {m : MethodId} {args : Array Value} {below : List Frame} {meth : Method} {c : Code} {G : GG} {SB : St} (C : Cx p s m args meth c G RX0 cX0_gatherAbove 6 (some .boolean)) {S : St} {H : Heap} {locs : List Loc} {ls : Array Slot} {P4 : Int → Int → St → Prop} {k : Int → St → Prop} (hw : Wd G ((injC SB) S) H) (hS : va_S (AG G) s.heap H locs) {xv1 : Int32} {x1 : Int} (xt1 : xv1.toInt = x1) {xv2 : Int32} {x2 : Int} (xt2 : xv2.toInt = x2) {x3 : Int} (xo3 : isO 6 x3) {xv4 : Int32} {x4 : Int} (xt4 : xv4.toInt = x4) (hl : lv_has ls 6 [(0, .ref (G.2.2 1034)), (1, .int xv1), (2, .int xv2), (3, .ref (G.2.2 (x3).toNat)), (4, .int xv4)]) (hP4 : ∀ {H : Heap} {locs : List Loc} {ls : Array Slot} {Sy : St} {yv1 : Int32} {y1 : Int} {yv2 : Int32} {y2 : Int}, yv1.toInt = y1 → yv2.toInt = y2 → Wd G ((injC SB) Sy) H → va_S (AG G) s.heap H locs → lv_has ls 6 [(0, .ref (G.2.2 1034)), (1, .int yv1), (2, .int yv2)] → P4 y1 y2 Sy → W p l e (rmF 2 48) s m args below meth c H locs 0 0 (MQ below (QcI G (injC SB) k) args s 0 0 (AG G)) (F0 m 4 ls [])) (h : wX0_gatherAbove_46 S x1 x2 x3 x4 P4 k) : W p l e (rmF 2 48) s m args below meth c H locs 0 0 (MQ below (QcI G (injC SB) k) args s 0 0 (AG G)) (F0 m 46 ls []) := by
  have key : ∀ (n : Nat) {H : Heap} {locs : List Loc} {ls : Array Slot} {S : St} {xv1 : Int32} {x1 : Int} {xv4 : Int32} {x4 : Int}, xv1.toInt = x1 → xv4.toInt = x4 → Wd G ((injC SB) S) H → va_S (AG G) s.heap H locs → lv_has ls 6 [(0, .ref (G.2.2 1034)), (1, .int xv1), (2, .int xv2), (3, .ref (G.2.2 (x3).toNat)), (4, .int xv4)] → itP (fun (P : Int × Int × St → Prop) (a : Int × Int × St) => wX0_gatherAbove_46_b a.2.2 a.1 x2 x3 a.2.1 P4 (fun b0 b1 b2 => P (b0, b1, b2)) k) n (x1, x4, S) → W p l e (rmF 2 48) s m args below meth c H locs 0 0 (MQ below (QcI G (injC SB) k) args s 0 0 (AG G)) (F0 m 46 ls []) := by
    intro n
    induction n with
    | zero => intro H locs ls S xv1 x1 xv4 x4 xt1 xt4 hw hS hl h; exact h.elim
    | succ n ih =>
      intro H locs ls S xv1 x1 xv4 x4 xt1 xt4 hw hS hl h
      exact uX0_gatherAbove_46_b C hw hS xt1 xt2 xo3 xt4 hl hP4 (P46 := fun b0 b1 b2 => itP _ n (b0, b1, b2)) (fun q0 q1 hw hS hl h => ih q0 q1 hw hS hl h) h
  obtain ⟨n, hn⟩ := h
  exact key n xt1 xt4 hw hS hl hn
set_option maxHeartbeats 4000000 in
set_option maxRecDepth 10000 in
theorem uX0_gatherAbove_4_b {p : Program} {l : Launch} {e : Env} {s : State} {m : MethodId} {args : Array Value} {below : List Frame} {meth : Method} {c : Code} {G : GG} {SB : St} (C : Cx p s m args meth c G RX0 cX0_gatherAbove 6 (some .boolean)) {S : St} {H : Heap} {locs : List Loc} {ls : Array Slot}  {P4 : Int → Int → St → Prop} {k : Int → St → Prop} (hw : Wd G ((injC SB) S) H) (hS : va_S (AG G) s.heap H locs) {xv1 : Int32} {x1 : Int} (xt1 : xv1.toInt = x1) {xv2 : Int32} {x2 : Int} (xt2 : xv2.toInt = x2) (hl : lv_has ls 6 [(0, .ref (G.2.2 1034)), (1, .int xv1), (2, .int xv2)])  (hP4 : ∀ {H : Heap} {locs : List Loc} {ls : Array Slot} {Sy : St} {yv1 : Int32} {y1 : Int} {yv2 : Int32} {y2 : Int}, yv1.toInt = y1 → yv2.toInt = y2 → Wd G ((injC SB) Sy) H → va_S (AG G) s.heap H locs → lv_has ls 6 [(0, .ref (G.2.2 1034)), (1, .int yv1), (2, .int yv2)] → P4 y1 y2 Sy → W p l e (rmF 2 48) s m args below meth c H locs 0 0 (MQ below (QcI G (injC SB) k) args s 0 0 (AG G)) (F0 m 4 ls [])) (h : wX0_gatherAbove_4_b S x1 x2 P4 k) : W p l e (rmF 2 48) s m args below meth c H locs 0 0 (MQ below (QcI G (injC SB) k) args s 0 0 (AG G)) (F0 m 4 ls []) := by
  refine lv_iload_n C.1.1 C.1.2.1 dX0_gatherAbove_4 rfl (lv_at hl 2 rfl) ?_
  refine lv_aload_n C.1.1 C.1.2.1 dX0_gatherAbove_5 rfl (lv_at hl 0 rfl) ?_
  obtain ⟨x_1, e1⟩ : ∃ z : Int, z = S 1034 1 := ⟨_, rfl⟩
  obtain ⟨o1, h⟩ := h x_1 e1
  refine y_getO C fl_X0_28 hw (ock_0 SB) rfl e1 o1 dX0_gatherAbove_6 ?_
  refine y_getI C fl_X0_76 hw (oc_of SB o1) rfl dX0_gatherAbove_9 (fun v2 t2 => ?_)
  refine y_icmp_ge C xt2 t2 dX0_gatherAbove_12 (tgt := 96) (by decide) (fun c3 => ?_) (fun c3 => ?_)
  · have h := h.1 c3
    refine y_iconst C dX0_gatherAbove_96 ⟨by decide, by decide⟩ (fun v4 t4 => ?_)
    exact y_zret C hw hS t4 (Or.inr rfl) h dX0_gatherAbove_97
  · have h := h.2 c3
    refine lv_aload_n C.1.1 C.1.2.1 dX0_gatherAbove_15 rfl (lv_at hl 0 rfl) ?_
    obtain ⟨x_5, e5⟩ : ∃ z : Int, z = S 1034 0 := ⟨_, rfl⟩
    obtain ⟨o5, h⟩ := h x_5 e5
    refine y_getO C fl_X0_18 hw (ock_0 SB) rfl e5 o5 dX0_gatherAbove_16 ?_
    refine y_getA C fl_X0_22 hw (oc_of SB o5) rfl (o := 1) rfl dX0_gatherAbove_19 ?_
    refine lv_aload_n C.1.1 C.1.2.1 dX0_gatherAbove_22 rfl (lv_at hl 0 rfl) ?_
    obtain ⟨x_7, e7⟩ : ∃ z : Int, z = S 1034 1 := ⟨_, rfl⟩
    obtain ⟨o7, h⟩ := h x_7 e7
    refine y_getO C fl_X0_28 hw (ock_0 SB) rfl e7 o7 dX0_gatherAbove_23 ?_
    refine y_getA C fl_X0_79 hw (oc_of SB o7) rfl (o := 3) rfl dX0_gatherAbove_26 ?_
    refine lv_iload_n C.1.1 C.1.2.1 dX0_gatherAbove_29 rfl (lv_at hl 2 rfl) ?_
    obtain ⟨b9, h⟩ := h
    refine y_iald C hw (ac_6_10 SB o7) xt2 b9 dX0_gatherAbove_30 (fun v9 t9 => ?_)
    obtain ⟨b10, h⟩ := h
    obtain ⟨x_10, e10⟩ : ∃ z : Int, z = x_5 + 6 + 6 * (S (x_7 + 3) x2) := ⟨_, rfl⟩
    have h := h x_10 e10
    have o10 : isO 6 x_10 := isO_ty o5 b10 e10
    refine y_tyO C hw o5 t9 b10 e10 dX0_gatherAbove_31 ?_
    refine lv_astore_n (lv' := [(3, .ref (G.2.2 (x_10).toNat)), (0, .ref (G.2.2 1034)), (1, .int xv1), (2, .int xv2)]) C.1.1 C.1.2.1 dX0_gatherAbove_32 rfl hl (by decide) rfl (fun ls hl => ?_)
    refine lv_aload_n C.1.1 C.1.2.1 dX0_gatherAbove_33 rfl (lv_at hl 1 rfl) ?_
    refine lv_aload_n C.1.1 C.1.2.1 dX0_gatherAbove_34 rfl (lv_at hl 0 rfl) ?_
    refine y_getI C fl_X0_82 hw (oc_of SB o10) rfl dX0_gatherAbove_35 (fun v11 t11 => ?_)
    refine lv_iload_n C.1.1 C.1.2.1 dX0_gatherAbove_38 rfl (lv_at hl 2 rfl) ?_
    refine y_cVI C (As := [.int v11, .int xv1]) (rest := []) ml_X0_85 (kX0_list l G SB S t11 xt1 h) (ock_0 SB) (T := TX0) (N := 5) rfl (by decide) ⟨(Nat.le_of_ble_eq_true rfl), (Nat.le_of_ble_eq_true rfl)⟩ hl.1 rfl rfl (Nat.le_of_ble_eq_true rfl) hw hS dX0_gatherAbove_39 (fun v12 x_12 S_12 H locs t12 h hw hS => ?_)
    refine lv_istore_n (lv' := [(1, .int v12), (3, .ref (G.2.2 (x_10).toNat)), (0, .ref (G.2.2 1034)), (2, .int xv2)]) C.1.1 C.1.2.1 dX0_gatherAbove_42 rfl hl (by decide) rfl (fun ls hl => ?_)
    refine y_iconst C dX0_gatherAbove_43 ⟨by decide, by decide⟩ (fun v13 t13 => ?_)
    refine lv_istore (lv' := [(4, .int v13), (1, .int v12), (3, .ref (G.2.2 (x_10).toNat)), (0, .ref (G.2.2 1034)), (2, .int xv2)]) C.1.1 C.1.2.1 dX0_gatherAbove_44 hl (by decide) rfl (fun ls hl => ?_)
    exact uX0_gatherAbove_46 C hw hS t12 xt2 o10 t13 (lv_sub hl [3, 1, 4, 2, 0] rfl) hP4 h
set_option maxHeartbeats 4000000 in
set_option maxRecDepth 10000 in
theorem uX0_gatherAbove_4 {p : Program} {l : Launch} {e : Env} {s : State} {m : MethodId} {args : Array Value} {below : List Frame} {meth : Method} {c : Code} {G : GG} {SB : St} (C : Cx p s m args meth c G RX0 cX0_gatherAbove 6 (some .boolean)) {S : St} {H : Heap} {locs : List Loc} {ls : Array Slot}  {k : Int → St → Prop} (hw : Wd G ((injC SB) S) H) (hS : va_S (AG G) s.heap H locs) {xv1 : Int32} {x1 : Int} (xt1 : xv1.toInt = x1) {xv2 : Int32} {x2 : Int} (xt2 : xv2.toInt = x2) (hl : lv_has ls 6 [(0, .ref (G.2.2 1034)), (1, .int xv1), (2, .int xv2)])  (h : wX0_gatherAbove_4 S x1 x2 k) : W p l e (rmF 2 48) s m args below meth c H locs 0 0 (MQ below (QcI G (injC SB) k) args s 0 0 (AG G)) (F0 m 4 ls []) := by
  have key : ∀ (n : Nat) {H : Heap} {locs : List Loc} {ls : Array Slot} {S : St} {xv1 : Int32} {x1 : Int} {xv2 : Int32} {x2 : Int}, xv1.toInt = x1 → xv2.toInt = x2 → Wd G ((injC SB) S) H → va_S (AG G) s.heap H locs → lv_has ls 6 [(0, .ref (G.2.2 1034)), (1, .int xv1), (2, .int xv2)] → itP (fun (P : Int × Int × St → Prop) (a : Int × Int × St) => wX0_gatherAbove_4_b a.2.2 a.1 a.2.1 (fun b0 b1 b2 => P (b0, b1, b2)) k) n (x1, x2, S) → W p l e (rmF 2 48) s m args below meth c H locs 0 0 (MQ below (QcI G (injC SB) k) args s 0 0 (AG G)) (F0 m 4 ls []) := by
    intro n
    induction n with
    | zero => intro H locs ls S xv1 x1 xv2 x2 xt1 xt2 hw hS hl h; exact h.elim
    | succ n ih =>
      intro H locs ls S xv1 x1 xv2 x2 xt1 xt2 hw hS hl h
      exact uX0_gatherAbove_4_b C hw hS xt1 xt2 hl  (P4 := fun b0 b1 b2 => itP _ n (b0, b1, b2)) (fun q0 q1 hw hS hl h => ih q0 q1 hw hS hl h) h
  obtain ⟨n, hn⟩ := h
  exact key n xt1 xt2 hw hS hl hn
set_option maxHeartbeats 4000000 in
set_option maxRecDepth 10000 in
theorem uX0_gatherAbove_0 {p : Program} {l : Launch} {e : Env} {s : State} {m : MethodId} {args : Array Value} {below : List Frame} {meth : Method} {c : Code} {G : GG} {SB : St} (C : Cx p s m args meth c G RX0 cX0_gatherAbove 6 (some .boolean)) {S : St} {H : Heap} {locs : List Loc} {ls : Array Slot}  {k : Int → St → Prop} (hw : Wd G ((injC SB) S) H) (hS : va_S (AG G) s.heap H locs)  (hl : lv_has ls 6 [(0, .ref (G.2.2 1034))])  (h : wX0_gatherAbove_0 S k) : W p l e (rmF 2 48) s m args below meth c H locs 0 0 (MQ below (QcI G (injC SB) k) args s 0 0 (AG G)) (F0 m 0 ls []) := by
  refine y_iconst C dX0_gatherAbove_0 ⟨by decide, by decide⟩ (fun v1 t1 => ?_)
  refine lv_istore_n (lv' := [(1, .int v1), (0, .ref (G.2.2 1034))]) C.1.1 C.1.2.1 dX0_gatherAbove_1 rfl hl (by decide) rfl (fun ls hl => ?_)
  refine y_iconst C dX0_gatherAbove_2 ⟨by decide, by decide⟩ (fun v2 t2 => ?_)
  refine lv_istore_n (lv' := [(2, .int v2), (1, .int v1), (0, .ref (G.2.2 1034))]) C.1.1 C.1.2.1 dX0_gatherAbove_3 rfl hl (by decide) rfl (fun ls hl => ?_)
  exact uX0_gatherAbove_4 C hw hS t1 t2 (lv_sub hl [2, 1, 0] rfl)  h
theorem kX0_gatherAbove (l : Launch) (G : GG) (SB S : St)  {k : Int → St → Prop} (h : wX0_gatherAbove S k) : CnI l yX0_gatherAbove cX0_gatherAbove 6 (some .boolean) 2 48 G (injC SB) [.ref (G.2.2 1034)] S k :=
  cn_body (by decide +kernel) (Nat.le_of_ble_eq_true rfl) (fun p e s m args below meth c ls C hw hl => uX0_gatherAbove_0 C hw va_S.rf  (lv_sub hl [0] rfl) h)
set_option maxHeartbeats 4000000 in
set_option maxRecDepth 10000 in
theorem uX0_gatherKinds_46_b {p : Program} {l : Launch} {e : Env} {s : State} {m : MethodId} {args : Array Value} {below : List Frame} {meth : Method} {c : Code} {G : GG} {SB : St} (C : Cx p s m args meth c G RX0 cX0_gatherKinds 4 none) {S : St} {H : Heap} {locs : List Loc} {ls : Array Slot} {P2 : Int → St → Prop} {P46 : Int → St → Prop} {k : St → Prop} (hw : Wd G ((injC SB) S) H) (hS : va_S (AG G) s.heap H locs) {xv1 : Int32} {x1 : Int} (xt1 : xv1.toInt = x1) {x2 : Int} (xo2 : isO 3 x2) {xv3 : Int32} {x3 : Int} (xt3 : xv3.toInt = x3) (hl : lv_has ls 4 [(0, .ref (G.2.2 1034)), (1, .int xv1), (2, .ref (G.2.2 (x2).toNat)), (3, .int xv3)]) (hP2 : ∀ {H : Heap} {locs : List Loc} {ls : Array Slot} {Sy : St} {yv1 : Int32} {y1 : Int}, yv1.toInt = y1 → Wd G ((injC SB) Sy) H → va_S (AG G) s.heap H locs → lv_has ls 4 [(0, .ref (G.2.2 1034)), (1, .int yv1)] → P2 y1 Sy → W p l e (rmF 1 24) s m args below meth c H locs 0 0 (MQ below (QcV G (injC SB) k) args s 0 0 (AG G)) (F0 m 2 ls [])) (hP46 : ∀ {H : Heap} {locs : List Loc} {ls : Array Slot} {Sy : St} {yv3 : Int32} {y3 : Int}, yv3.toInt = y3 → Wd G ((injC SB) Sy) H → va_S (AG G) s.heap H locs → lv_has ls 4 [(0, .ref (G.2.2 1034)), (1, .int xv1), (2, .ref (G.2.2 (x2).toNat)), (3, .int yv3)] → P46 y3 Sy → W p l e (rmF 1 24) s m args below meth c H locs 0 0 (MQ below (QcV G (injC SB) k) args s 0 0 (AG G)) (F0 m 46 ls [])) (h : wX0_gatherKinds_46_b S x1 x2 x3 P2 P46 k) : W p l e (rmF 1 24) s m args below meth c H locs 0 0 (MQ below (QcV G (injC SB) k) args s 0 0 (AG G)) (F0 m 46 ls []) := by
  refine lv_iload_n C.1.1 C.1.2.1 dX0_gatherKinds_46 rfl (lv_at hl 3 rfl) ?_
  refine y_iconst C dX0_gatherKinds_47 ⟨by decide, by decide⟩ (fun v1 t1 => ?_)
  refine y_icmp_gt C xt3 t1 dX0_gatherKinds_48 (tgt := 80) (by decide) (fun c2 => ?_) (fun c2 => ?_)
  · have h := h.1 c2
    obtain ⟨x_3, e3⟩ : ∃ z : Int, z = w32 (x1 + 1) := ⟨_, rfl⟩
    have h := h x_3 e3
    obtain ⟨v3, t3, g3⟩ : ∃ z : Int32, z.toInt = x_3 ∧ xv1 + Int32.ofInt 1 = z := ⟨_, (ti_inc xt1 ⟨by decide, by decide⟩).trans e3.symm, rfl⟩
    refine lv_iinc (v := v3) (lv' := [(1, .int v3), (0, .ref (G.2.2 1034)), (2, .ref (G.2.2 (x2).toNat)), (3, .int xv3)]) C.1.1 C.1.2.1 dX0_gatherKinds_80 hl (k := 1) rfl g3 (by decide) rfl (fun ls hl => ?_)
    refine lv_goto (tgt := 2) C.1.1 C.1.2.1 dX0_gatherKinds_83 (by decide) ?_
    exact hP2 t3 hw hS (lv_sub hl [1, 0] rfl) h
  · have h := h.2 c2
    refine lv_aload_n C.1.1 C.1.2.1 dX0_gatherKinds_51 rfl (lv_at hl 0 rfl) ?_
    refine y_getA C fl_X0_9 hw (ock_0 SB) rfl (o := 1) rfl dX0_gatherKinds_52 ?_
    refine lv_iload_n C.1.1 C.1.2.1 dX0_gatherKinds_55 rfl (lv_at hl 1 rfl) ?_
    refine y_iconst C dX0_gatherKinds_56 ⟨by decide, by decide⟩ (fun v5 t5 => ?_)
    refine y_imul C xt1 t5 dX0_gatherKinds_57 (fun v6 t6 => ?_)
    refine lv_iload_n C.1.1 C.1.2.1 dX0_gatherKinds_58 rfl (lv_at hl 3 rfl) ?_
    refine y_iadd C t6 xt3 dX0_gatherKinds_59 (fun v7 t7 => ?_)
    refine lv_aload_n C.1.1 C.1.2.1 dX0_gatherKinds_60 rfl (lv_at hl 0 rfl) ?_
    obtain ⟨x_8, e8⟩ : ∃ z : Int, z = S 1034 0 := ⟨_, rfl⟩
    obtain ⟨o8, h⟩ := h x_8 e8
    refine y_getO C fl_X0_18 hw (ock_0 SB) rfl e8 o8 dX0_gatherKinds_61 ?_
    refine lv_aload_n C.1.1 C.1.2.1 dX0_gatherKinds_64 rfl (lv_at hl 0 rfl) ?_
    obtain ⟨x_9, e9⟩ : ∃ z : Int, z = S 1034 1 := ⟨_, rfl⟩
    obtain ⟨o9, h⟩ := h x_9 e9
    refine y_getO C fl_X0_28 hw (ock_0 SB) rfl e9 o9 dX0_gatherKinds_65 ?_
    refine lv_aload_n C.1.1 C.1.2.1 dX0_gatherKinds_68 rfl (lv_at hl 2 rfl) ?_
    refine lv_iload_n C.1.1 C.1.2.1 dX0_gatherKinds_69 rfl (lv_at hl 3 rfl) ?_
    refine y_cVIp C (As := [.ref (G.2.2 (x_9).toNat), .ref (G.2.2 (x2).toNat), .int xv3]) (rest := [.int v7, .ref (G.2.2 (1035))]) ml_X0_122 (kX2_kindSeen l G SB S o8 o9 xo2 xt3 h) (oc_of SB o8) (T := TX2) (N := 9) rfl (by decide) ⟨(Nat.le_of_ble_eq_true rfl), (Nat.le_of_ble_eq_true rfl)⟩ hl.1 rfl rfl (Nat.le_of_ble_eq_true rfl) hw hS dX0_gatherKinds_70 (fun v10 x_10 H locs t10 h hw hS => ?_)
    obtain ⟨b11, h⟩ := h
    obtain ⟨S_11, e11⟩ : ∃ z : St, z = up S 1035 (w32 (w32 (x1 * 3) + x3)) x_10 := ⟨_, rfl⟩
    have h := h S_11 e11
    refine y_iast C hw hS (ack_0_2 SB) t7 t10 b11 dX0_gatherKinds_73 (fun H locs hw hS => ?_)
    have hw : Wd G ((injC SB) S_11) H := by rw [e11]; exact hw
    obtain ⟨x_12, e12⟩ : ∃ z : Int, z = w32 (x3 + 1) := ⟨_, rfl⟩
    have h := h x_12 e12
    obtain ⟨v12, t12, g12⟩ : ∃ z : Int32, z.toInt = x_12 ∧ xv3 + Int32.ofInt 1 = z := ⟨_, (ti_inc xt3 ⟨by decide, by decide⟩).trans e12.symm, rfl⟩
    refine lv_iinc (v := v12) (lv' := [(3, .int v12), (0, .ref (G.2.2 1034)), (1, .int xv1), (2, .ref (G.2.2 (x2).toNat))]) C.1.1 C.1.2.1 dX0_gatherKinds_74 hl (k := 3) rfl g12 (by decide) rfl (fun ls hl => ?_)
    refine lv_goto (tgt := 46) C.1.1 C.1.2.1 dX0_gatherKinds_77 (by decide) ?_
    exact hP46 t12 hw hS (lv_sub hl [1, 2, 3, 0] rfl) h
set_option maxHeartbeats 4000000 in
set_option maxRecDepth 10000 in
theorem uX0_gatherKinds_46 {p : Program} {l : Launch} {e : Env} {s : State} {m : MethodId} {args : Array Value} {below : List Frame} {meth : Method} {c : Code} {G : GG} {SB : St} (C : Cx p s m args meth c G RX0 cX0_gatherKinds 4 none) {S : St} {H : Heap} {locs : List Loc} {ls : Array Slot} {P2 : Int → St → Prop} {k : St → Prop} (hw : Wd G ((injC SB) S) H) (hS : va_S (AG G) s.heap H locs) {xv1 : Int32} {x1 : Int} (xt1 : xv1.toInt = x1) {x2 : Int} (xo2 : isO 3 x2) {xv3 : Int32} {x3 : Int} (xt3 : xv3.toInt = x3) (hl : lv_has ls 4 [(0, .ref (G.2.2 1034)), (1, .int xv1), (2, .ref (G.2.2 (x2).toNat)), (3, .int xv3)]) (hP2 : ∀ {H : Heap} {locs : List Loc} {ls : Array Slot} {Sy : St} {yv1 : Int32} {y1 : Int}, yv1.toInt = y1 → Wd G ((injC SB) Sy) H → va_S (AG G) s.heap H locs → lv_has ls 4 [(0, .ref (G.2.2 1034)), (1, .int yv1)] → P2 y1 Sy → W p l e (rmF 1 24) s m args below meth c H locs 0 0 (MQ below (QcV G (injC SB) k) args s 0 0 (AG G)) (F0 m 2 ls [])) (h : wX0_gatherKinds_46 S x1 x2 x3 P2 k) : W p l e (rmF 1 24) s m args below meth c H locs 0 0 (MQ below (QcV G (injC SB) k) args s 0 0 (AG G)) (F0 m 46 ls []) := by
  have key : ∀ (n : Nat) {H : Heap} {locs : List Loc} {ls : Array Slot} {S : St} {xv3 : Int32} {x3 : Int}, xv3.toInt = x3 → Wd G ((injC SB) S) H → va_S (AG G) s.heap H locs → lv_has ls 4 [(0, .ref (G.2.2 1034)), (1, .int xv1), (2, .ref (G.2.2 (x2).toNat)), (3, .int xv3)] → itP (fun (P : Int × St → Prop) (a : Int × St) => wX0_gatherKinds_46_b a.2 x1 x2 a.1 P2 (fun b0 b1 => P (b0, b1)) k) n (x3, S) → W p l e (rmF 1 24) s m args below meth c H locs 0 0 (MQ below (QcV G (injC SB) k) args s 0 0 (AG G)) (F0 m 46 ls []) := by
    intro n
    induction n with
    | zero => intro H locs ls S xv3 x3 xt3 hw hS hl h; exact h.elim
    | succ n ih =>
      intro H locs ls S xv3 x3 xt3 hw hS hl h
      exact uX0_gatherKinds_46_b C hw hS xt1 xo2 xt3 hl hP2 (P46 := fun b0 b1 => itP _ n (b0, b1)) (fun q0 hw hS hl h => ih q0 hw hS hl h) h
  obtain ⟨n, hn⟩ := h
  exact key n xt3 hw hS hl hn
set_option maxHeartbeats 4000000 in
set_option maxRecDepth 10000 in
theorem uX0_gatherKinds_2_b {p : Program} {l : Launch} {e : Env} {s : State} {m : MethodId} {args : Array Value} {below : List Frame} {meth : Method} {c : Code} {G : GG} {SB : St} (C : Cx p s m args meth c G RX0 cX0_gatherKinds 4 none) {S : St} {H : Heap} {locs : List Loc} {ls : Array Slot}  {P2 : Int → St → Prop} {k : St → Prop} (hw : Wd G ((injC SB) S) H) (hS : va_S (AG G) s.heap H locs) {xv1 : Int32} {x1 : Int} (xt1 : xv1.toInt = x1) (hl : lv_has ls 4 [(0, .ref (G.2.2 1034)), (1, .int xv1)])  (hP2 : ∀ {H : Heap} {locs : List Loc} {ls : Array Slot} {Sy : St} {yv1 : Int32} {y1 : Int}, yv1.toInt = y1 → Wd G ((injC SB) Sy) H → va_S (AG G) s.heap H locs → lv_has ls 4 [(0, .ref (G.2.2 1034)), (1, .int yv1)] → P2 y1 Sy → W p l e (rmF 1 24) s m args below meth c H locs 0 0 (MQ below (QcV G (injC SB) k) args s 0 0 (AG G)) (F0 m 2 ls [])) (h : wX0_gatherKinds_2_b S x1 P2 k) : W p l e (rmF 1 24) s m args below meth c H locs 0 0 (MQ below (QcV G (injC SB) k) args s 0 0 (AG G)) (F0 m 2 ls []) := by
  refine lv_iload_n C.1.1 C.1.2.1 dX0_gatherKinds_2 rfl (lv_at hl 1 rfl) ?_
  refine lv_aload_n C.1.1 C.1.2.1 dX0_gatherKinds_3 rfl (lv_at hl 0 rfl) ?_
  obtain ⟨x_1, e1⟩ : ∃ z : Int, z = S 1034 0 := ⟨_, rfl⟩
  obtain ⟨o1, h⟩ := h x_1 e1
  refine y_getO C fl_X0_18 hw (ock_0 SB) rfl e1 o1 dX0_gatherKinds_4 ?_
  refine y_getI C fl_X0_63 hw (oc_of SB o1) rfl dX0_gatherKinds_7 (fun v2 t2 => ?_)
  refine y_icmp_ge C xt1 t2 dX0_gatherKinds_10 (tgt := 86) (by decide) (fun c3 => ?_) (fun c3 => ?_)
  · have h := h.1 c3
    exact y_vret C hw hS h dX0_gatherKinds_86
  · have h := h.2 c3
    refine lv_aload_n C.1.1 C.1.2.1 dX0_gatherKinds_13 rfl (lv_at hl 0 rfl) ?_
    obtain ⟨x_4, e4⟩ : ∃ z : Int, z = S 1034 0 := ⟨_, rfl⟩
    obtain ⟨o4, h⟩ := h x_4 e4
    refine y_getO C fl_X0_18 hw (ock_0 SB) rfl e4 o4 dX0_gatherKinds_14 ?_
    refine y_getA C fl_X0_66 hw (oc_of SB o4) rfl (o := 2) rfl dX0_gatherKinds_17 ?_
    refine lv_iload_n C.1.1 C.1.2.1 dX0_gatherKinds_20 rfl (lv_at hl 1 rfl) ?_
    obtain ⟨b6, h⟩ := h
    obtain ⟨x_6, e6⟩ : ∃ z : Int, z = x_4 + 150 + 3 * x1 := ⟨_, rfl⟩
    have h := h x_6 e6
    have o6 : isO 3 x_6 := isO_mb o4 b6 e6
    refine y_mbO C hw o4 xt1 b6 e6 dX0_gatherKinds_21 ?_
    refine lv_astore_n (lv' := [(2, .ref (G.2.2 (x_6).toNat)), (0, .ref (G.2.2 1034)), (1, .int xv1)]) C.1.1 C.1.2.1 dX0_gatherKinds_22 rfl hl (by decide) rfl (fun ls hl => ?_)
    refine lv_aload_n C.1.1 C.1.2.1 dX0_gatherKinds_23 rfl (lv_at hl 1 rfl) ?_
    obtain ⟨x_7, e7⟩ : ∃ z : Int, z = S 1034 0 := ⟨_, rfl⟩
    obtain ⟨o7, h⟩ := h x_7 e7
    refine y_getO C fl_X0_18 hw (ock_0 SB) rfl e7 o7 dX0_gatherKinds_24 ?_
    refine lv_aload_n C.1.1 C.1.2.1 dX0_gatherKinds_27 rfl (lv_at hl 1 rfl) ?_
    obtain ⟨x_8, e8⟩ : ∃ z : Int, z = S 1034 1 := ⟨_, rfl⟩
    obtain ⟨o8, h⟩ := h x_8 e8
    refine y_getO C fl_X0_28 hw (ock_0 SB) rfl e8 o8 dX0_gatherKinds_28 ?_
    refine y_getI C fl_X0_82 hw (oc_of SB o8) rfl dX0_gatherKinds_31 (fun v9 t9 => ?_)
    refine lv_aload_n C.1.1 C.1.2.1 dX0_gatherKinds_34 rfl (lv_at hl 0 rfl) ?_
    refine y_getI C fl_X0_116 hw (oc_of SB o6) rfl dX0_gatherKinds_35 (fun v10 t10 => ?_)
    refine y_cVIp C (As := [.int v9, .int v10]) (rest := []) ml_X0_118 (kX2_isUnder l G SB S o7 t9 t10 h) (oc_of SB o7) (T := TX2) (N := 9) rfl (by decide) ⟨(Nat.le_of_ble_eq_true rfl), (Nat.le_of_ble_eq_true rfl)⟩ hl.1 rfl rfl (Nat.le_of_ble_eq_true rfl) hw hS dX0_gatherKinds_38 (fun v11 x_11 H locs t11 h hw hS => ?_)
    refine y_if_eq C t11 dX0_gatherKinds_41 (tgt := 80) (by decide) (fun c12 => ?_) (fun c12 => ?_)
    · have h := h.1 c12
      obtain ⟨x_13, e13⟩ : ∃ z : Int, z = w32 (x1 + 1) := ⟨_, rfl⟩
      have h := h x_13 e13
      obtain ⟨v13, t13, g13⟩ : ∃ z : Int32, z.toInt = x_13 ∧ xv1 + Int32.ofInt 1 = z := ⟨_, (ti_inc xt1 ⟨by decide, by decide⟩).trans e13.symm, rfl⟩
      refine lv_iinc (v := v13) (lv' := [(1, .int v13), (2, .ref (G.2.2 (x_6).toNat)), (0, .ref (G.2.2 1034))]) C.1.1 C.1.2.1 dX0_gatherKinds_80 hl (k := 2) rfl g13 (by decide) rfl (fun ls hl => ?_)
      refine lv_goto (tgt := 2) C.1.1 C.1.2.1 dX0_gatherKinds_83 (by decide) ?_
      exact hP2 t13 hw hS (lv_sub hl [2, 0] rfl) h
    · have h := h.2 c12
      refine y_iconst C dX0_gatherKinds_44 ⟨by decide, by decide⟩ (fun v14 t14 => ?_)
      refine lv_istore_n (lv' := [(3, .int v14), (2, .ref (G.2.2 (x_6).toNat)), (0, .ref (G.2.2 1034)), (1, .int xv1)]) C.1.1 C.1.2.1 dX0_gatherKinds_45 rfl hl (by decide) rfl (fun ls hl => ?_)
      exact uX0_gatherKinds_46 C hw hS xt1 o6 t14 (lv_sub hl [2, 3, 1, 0] rfl) hP2 h
set_option maxHeartbeats 4000000 in
set_option maxRecDepth 10000 in
theorem uX0_gatherKinds_2 {p : Program} {l : Launch} {e : Env} {s : State} {m : MethodId} {args : Array Value} {below : List Frame} {meth : Method} {c : Code} {G : GG} {SB : St} (C : Cx p s m args meth c G RX0 cX0_gatherKinds 4 none) {S : St} {H : Heap} {locs : List Loc} {ls : Array Slot}  {k : St → Prop} (hw : Wd G ((injC SB) S) H) (hS : va_S (AG G) s.heap H locs) {xv1 : Int32} {x1 : Int} (xt1 : xv1.toInt = x1) (hl : lv_has ls 4 [(0, .ref (G.2.2 1034)), (1, .int xv1)])  (h : wX0_gatherKinds_2 S x1 k) : W p l e (rmF 1 24) s m args below meth c H locs 0 0 (MQ below (QcV G (injC SB) k) args s 0 0 (AG G)) (F0 m 2 ls []) := by
  have key : ∀ (n : Nat) {H : Heap} {locs : List Loc} {ls : Array Slot} {S : St} {xv1 : Int32} {x1 : Int}, xv1.toInt = x1 → Wd G ((injC SB) S) H → va_S (AG G) s.heap H locs → lv_has ls 4 [(0, .ref (G.2.2 1034)), (1, .int xv1)] → itP (fun (P : Int × St → Prop) (a : Int × St) => wX0_gatherKinds_2_b a.2 a.1 (fun b0 b1 => P (b0, b1)) k) n (x1, S) → W p l e (rmF 1 24) s m args below meth c H locs 0 0 (MQ below (QcV G (injC SB) k) args s 0 0 (AG G)) (F0 m 2 ls []) := by
    intro n
    induction n with
    | zero => intro H locs ls S xv1 x1 xt1 hw hS hl h; exact h.elim
    | succ n ih =>
      intro H locs ls S xv1 x1 xt1 hw hS hl h
      exact uX0_gatherKinds_2_b C hw hS xt1 hl  (P2 := fun b0 b1 => itP _ n (b0, b1)) (fun q0 hw hS hl h => ih q0 hw hS hl h) h
  obtain ⟨n, hn⟩ := h
  exact key n xt1 hw hS hl hn
set_option maxHeartbeats 4000000 in
set_option maxRecDepth 10000 in
theorem uX0_gatherKinds_0 {p : Program} {l : Launch} {e : Env} {s : State} {m : MethodId} {args : Array Value} {below : List Frame} {meth : Method} {c : Code} {G : GG} {SB : St} (C : Cx p s m args meth c G RX0 cX0_gatherKinds 4 none) {S : St} {H : Heap} {locs : List Loc} {ls : Array Slot}  {k : St → Prop} (hw : Wd G ((injC SB) S) H) (hS : va_S (AG G) s.heap H locs)  (hl : lv_has ls 4 [(0, .ref (G.2.2 1034))])  (h : wX0_gatherKinds_0 S k) : W p l e (rmF 1 24) s m args below meth c H locs 0 0 (MQ below (QcV G (injC SB) k) args s 0 0 (AG G)) (F0 m 0 ls []) := by
  refine y_iconst C dX0_gatherKinds_0 ⟨by decide, by decide⟩ (fun v1 t1 => ?_)
  refine lv_istore_n (lv' := [(1, .int v1), (0, .ref (G.2.2 1034))]) C.1.1 C.1.2.1 dX0_gatherKinds_1 rfl hl (by decide) rfl (fun ls hl => ?_)
  exact uX0_gatherKinds_2 C hw hS t1 (lv_sub hl [1, 0] rfl)  h
theorem kX0_gatherKinds (l : Launch) (G : GG) (SB S : St)  {k : St → Prop} (h : wX0_gatherKinds S k) : CnV l yX0_gatherKinds cX0_gatherKinds 4 none 1 24 G (injC SB) [.ref (G.2.2 1034)] S k :=
  cn_body (by decide +kernel) (Nat.le_of_ble_eq_true rfl) (fun p e s m args below meth c ls C hw hl => uX0_gatherKinds_0 C hw va_S.rf  (lv_sub hl [0] rfl) h)
set_option maxHeartbeats 4000000 in
set_option maxRecDepth 10000 in
theorem uX0_isAbove_0 {p : Program} {l : Launch} {e : Env} {s : State} {m : MethodId} {args : Array Value} {below : List Frame} {meth : Method} {c : Code} {G : GG} {SB : St} (C : Cx p s m args meth c G RX0 cX0_isAbove 2 (some .boolean)) {S : St} {H : Heap} {locs : List Loc} {ls : Array Slot}  {k : Int → Prop} (hw : Wd G ((injC SB) S) H) (hS : va_S (AG G) s.heap H locs) {xv1 : Int32} {x1 : Int} (xt1 : xv1.toInt = x1) (hl : lv_has ls 2 [(0, .ref (G.2.2 1034)), (1, .int xv1)])  (h : wX0_isAbove_0 S x1 k) : W p l e (rmF 1 21) s m args below meth c H locs 0 0 (MQ below (QcI G (injC SB) (fun r u => k r ∧ u = S)) args s 0 0 (AG G)) (F0 m 0 ls []) := by
  refine lv_aload_n C.1.1 C.1.2.1 dX0_isAbove_0 rfl (lv_at hl 0 rfl) ?_
  obtain ⟨x_1, e1⟩ : ∃ z : Int, z = S 1034 1 := ⟨_, rfl⟩
  obtain ⟨o1, h⟩ := h x_1 e1
  refine y_getO C fl_X0_28 hw (ock_0 SB) rfl e1 o1 dX0_isAbove_1 ?_
  refine lv_aload_n C.1.1 C.1.2.1 dX0_isAbove_4 rfl (lv_at hl 0 rfl) ?_
  obtain ⟨x_2, e2⟩ : ∃ z : Int, z = S 1034 0 := ⟨_, rfl⟩
  obtain ⟨o2, h⟩ := h x_2 e2
  refine y_getO C fl_X0_18 hw (ock_0 SB) rfl e2 o2 dX0_isAbove_5 ?_
  refine y_getA C fl_X0_66 hw (oc_of SB o2) rfl (o := 2) rfl dX0_isAbove_8 ?_
  refine lv_iload_n C.1.1 C.1.2.1 dX0_isAbove_11 rfl (lv_at hl 1 rfl) ?_
  obtain ⟨b4, h⟩ := h
  obtain ⟨x_4, e4⟩ : ∃ z : Int, z = x_2 + 150 + 3 * x1 := ⟨_, rfl⟩
  have h := h x_4 e4
  have o4 : isO 3 x_4 := isO_mb o2 b4 e4
  refine y_mbO C hw o2 xt1 b4 e4 dX0_isAbove_12 ?_
  refine y_getI C fl_X0_116 hw (oc_of SB o4) rfl dX0_isAbove_13 (fun v5 t5 => ?_)
  refine y_cVIp C (As := [.int v5]) (rest := []) ml_X0_99 (kX6_isBelow l G SB S o1 t5 h) (oc_of SB o1) (T := TX6) (N := 20) rfl (by decide) ⟨(Nat.le_of_ble_eq_true rfl), (Nat.le_of_ble_eq_true rfl)⟩ hl.1 rfl rfl (Nat.le_of_ble_eq_true rfl) hw hS dX0_isAbove_16 (fun v6 x_6 H locs t6 h hw hS => ?_)
  obtain ⟨z, h⟩ := h
  exact y_zret C hw hS t6 z ⟨h, rfl⟩ dX0_isAbove_19
theorem kX0_isAbove (l : Launch) (G : GG) (SB S : St) {xv1 : Int32} {x1 : Int} (xt1 : xv1.toInt = x1) {k : Int → Prop} (h : wX0_isAbove S x1 k) : CnI l yX0_isAbove cX0_isAbove 2 (some .boolean) 1 21 G (injC SB) [.ref (G.2.2 1034), .int xv1] S (fun r u => k r ∧ u = S) :=
  cn_body (by decide +kernel) (Nat.le_of_ble_eq_true rfl) (fun p e s m args below meth c ls C hw hl => uX0_isAbove_0 C hw va_S.rf xt1 (lv_sub hl [0, 1] rfl) h)
set_option maxHeartbeats 4000000 in
set_option maxRecDepth 10000 in
theorem uX0_gatherFree_7_b {p : Program} {l : Launch} {e : Env} {s : State} {m : MethodId} {args : Array Value} {below : List Frame} {meth : Method} {c : Code} {G : GG} {SB : St} (C : Cx p s m args meth c G RX0 cX0_gatherFree 2 none) {S : St} {H : Heap} {locs : List Loc} {ls : Array Slot}  {P7 : Int → St → Prop} {k : St → Prop} (hw : Wd G ((injC SB) S) H) (hS : va_S (AG G) s.heap H locs) {xv1 : Int32} {x1 : Int} (xt1 : xv1.toInt = x1) (hl : lv_has ls 2 [(0, .ref (G.2.2 1034)), (1, .int xv1)])  (hP7 : ∀ {H : Heap} {locs : List Loc} {ls : Array Slot} {Sy : St} {yv1 : Int32} {y1 : Int}, yv1.toInt = y1 → Wd G ((injC SB) Sy) H → va_S (AG G) s.heap H locs → lv_has ls 2 [(0, .ref (G.2.2 1034)), (1, .int yv1)] → P7 y1 Sy → W p l e (rmF 2 42) s m args below meth c H locs 0 0 (MQ below (QcV G (injC SB) k) args s 0 0 (AG G)) (F0 m 7 ls [])) (h : wX0_gatherFree_7_b S x1 P7 k) : W p l e (rmF 2 42) s m args below meth c H locs 0 0 (MQ below (QcV G (injC SB) k) args s 0 0 (AG G)) (F0 m 7 ls []) := by
  refine lv_iload_n C.1.1 C.1.2.1 dX0_gatherFree_7 rfl (lv_at hl 1 rfl) ?_
  refine lv_aload_n C.1.1 C.1.2.1 dX0_gatherFree_8 rfl (lv_at hl 0 rfl) ?_
  obtain ⟨x_1, e1⟩ : ∃ z : Int, z = S 1034 1 := ⟨_, rfl⟩
  obtain ⟨o1, h⟩ := h x_1 e1
  refine y_getO C fl_X0_28 hw (ock_0 SB) rfl e1 o1 dX0_gatherFree_9 ?_
  refine y_getI C fl_X0_57 hw (oc_of SB o1) rfl dX0_gatherFree_12 (fun v2 t2 => ?_)
  refine y_icmp_ge C xt1 t2 dX0_gatherFree_15 (tgt := 67) (by decide) (fun c3 => ?_) (fun c3 => ?_)
  · have h := h.1 c3
    exact y_vret C hw hS h dX0_gatherFree_67
  · have h := h.2 c3
    refine lv_aload_n C.1.1 C.1.2.1 dX0_gatherFree_18 rfl (lv_at hl 0 rfl) ?_
    refine lv_iload_n C.1.1 C.1.2.1 dX0_gatherFree_19 rfl (lv_at hl 1 rfl) ?_
    refine y_cVIp C (As := [.int xv1]) (rest := []) ml_X0_129 (kX0_isAbove l G SB S xt1 h) (ock_0 SB) (T := TX0) (N := 5) rfl (by decide) ⟨(Nat.le_of_ble_eq_true rfl), (Nat.le_of_ble_eq_true rfl)⟩ hl.1 rfl rfl (Nat.le_of_ble_eq_true rfl) hw hS dX0_gatherFree_20 (fun v4 x_4 H locs t4 h hw hS => ?_)
    refine y_if_eq C t4 dX0_gatherFree_23 (tgt := 61) (by decide) (fun c5 => ?_) (fun c5 => ?_)
    · have h := h.1 c5
      obtain ⟨x_6, e6⟩ : ∃ z : Int, z = w32 (x1 + 1) := ⟨_, rfl⟩
      have h := h x_6 e6
      obtain ⟨v6, t6, g6⟩ : ∃ z : Int32, z.toInt = x_6 ∧ xv1 + Int32.ofInt 1 = z := ⟨_, (ti_inc xt1 ⟨by decide, by decide⟩).trans e6.symm, rfl⟩
      refine lv_iinc (v := v6) (lv' := [(1, .int v6), (0, .ref (G.2.2 1034))]) C.1.1 C.1.2.1 dX0_gatherFree_61 hl (k := 1) rfl g6 (by decide) rfl (fun ls hl => ?_)
      refine lv_goto (tgt := 7) C.1.1 C.1.2.1 dX0_gatherFree_64 (by decide) ?_
      exact hP7 t6 hw hS (lv_sub hl [1, 0] rfl) h
    · have h := h.2 c5
      refine lv_aload_n C.1.1 C.1.2.1 dX0_gatherFree_26 rfl (lv_at hl 0 rfl) ?_
      obtain ⟨x_7, e7⟩ : ∃ z : Int, z = S 1034 0 := ⟨_, rfl⟩
      obtain ⟨o7, h⟩ := h x_7 e7
      refine y_getO C fl_X0_18 hw (ock_0 SB) rfl e7 o7 dX0_gatherFree_27 ?_
      refine y_getA C fl_X0_66 hw (oc_of SB o7) rfl (o := 2) rfl dX0_gatherFree_30 ?_
      refine lv_iload_n C.1.1 C.1.2.1 dX0_gatherFree_33 rfl (lv_at hl 1 rfl) ?_
      obtain ⟨b9, h⟩ := h
      obtain ⟨x_9, e9⟩ : ∃ z : Int, z = x_7 + 150 + 3 * x1 := ⟨_, rfl⟩
      have h := h x_9 e9
      have o9 : isO 3 x_9 := isO_mb o7 b9 e9
      refine y_mbO C hw o7 xt1 b9 e9 dX0_gatherFree_34 ?_
      refine y_cVIp C (As := []) (rest := []) ml_X0_132 (kX3_isFree l G SB S o9 h) (oc_of SB o9) (T := TX3) (N := 8) rfl (by decide) ⟨(Nat.le_of_ble_eq_true rfl), (Nat.le_of_ble_eq_true rfl)⟩ hl.1 rfl rfl (Nat.le_of_ble_eq_true rfl) hw hS dX0_gatherFree_35 (fun v10 x_10 H locs t10 h hw hS => ?_)
      refine y_if_eq C t10 dX0_gatherFree_38 (tgt := 61) (by decide) (fun c11 => ?_) (fun c11 => ?_)
      · have h := h.1 c11
        obtain ⟨x_12, e12⟩ : ∃ z : Int, z = w32 (x1 + 1) := ⟨_, rfl⟩
        have h := h x_12 e12
        obtain ⟨v12, t12, g12⟩ : ∃ z : Int32, z.toInt = x_12 ∧ xv1 + Int32.ofInt 1 = z := ⟨_, (ti_inc xt1 ⟨by decide, by decide⟩).trans e12.symm, rfl⟩
        refine lv_iinc (v := v12) (lv' := [(1, .int v12), (0, .ref (G.2.2 1034))]) C.1.1 C.1.2.1 dX0_gatherFree_61 hl (k := 1) rfl g12 (by decide) rfl (fun ls hl => ?_)
        refine lv_goto (tgt := 7) C.1.1 C.1.2.1 dX0_gatherFree_64 (by decide) ?_
        exact hP7 t12 hw hS (lv_sub hl [1, 0] rfl) h
      · have h := h.2 c11
        refine lv_aload_n C.1.1 C.1.2.1 dX0_gatherFree_41 rfl (lv_at hl 0 rfl) ?_
        refine y_getA C fl_X0_15 hw (ock_0 SB) rfl (o := 2) rfl dX0_gatherFree_42 ?_
        refine lv_aload_n C.1.1 C.1.2.1 dX0_gatherFree_45 rfl (lv_at hl 0 rfl) ?_
        refine y_getI C fl_X0_126 hw (ock_0 SB) rfl dX0_gatherFree_46 (fun v14 t14 => ?_)
        refine lv_iload_n C.1.1 C.1.2.1 dX0_gatherFree_49 rfl (lv_at hl 1 rfl) ?_
        obtain ⟨b15, h⟩ := h
        obtain ⟨S_15, e15⟩ : ∃ z : St, z = up S 1036 (S 1034 4) x1 := ⟨_, rfl⟩
        have h := h S_15 e15
        refine y_iast C hw hS (ack_0_3 SB) t14 xt1 b15 dX0_gatherFree_50 (fun H locs hw hS => ?_)
        have hw : Wd G ((injC SB) S_15) H := by rw [e15]; exact hw
        refine lv_aload_n C.1.1 C.1.2.1 dX0_gatherFree_51 rfl (lv_at hl 0 rfl) ?_
        refine lv_dup C.1.1 C.1.2.1 dX0_gatherFree_52 rfl ?_
        refine y_getI C fl_X0_126 hw (ock_0 SB) rfl dX0_gatherFree_53 (fun v16 t16 => ?_)
        refine y_iconst C dX0_gatherFree_56 ⟨by decide, by decide⟩ (fun v17 t17 => ?_)
        refine y_iadd C t16 t17 dX0_gatherFree_57 (fun v18 t18 => ?_)
        obtain ⟨S_19, e19⟩ : ∃ z : St, z = up S_15 1034 4 (w32 (S_15 1034 4 + 1)) := ⟨_, rfl⟩
        have h := h S_19 e19
        refine y_putI C fl_X0_126 fp_0_4 hw hS (ock_0 SB) rfl t18 dX0_gatherFree_58 (fun H locs hw hS => ?_)
        have hw : Wd G ((injC SB) S_19) H := by rw [e19]; exact hw
        obtain ⟨x_20, e20⟩ : ∃ z : Int, z = w32 (x1 + 1) := ⟨_, rfl⟩
        have h := h x_20 e20
        obtain ⟨v20, t20, g20⟩ : ∃ z : Int32, z.toInt = x_20 ∧ xv1 + Int32.ofInt 1 = z := ⟨_, (ti_inc xt1 ⟨by decide, by decide⟩).trans e20.symm, rfl⟩
        refine lv_iinc (v := v20) (lv' := [(1, .int v20), (0, .ref (G.2.2 1034))]) C.1.1 C.1.2.1 dX0_gatherFree_61 hl (k := 1) rfl g20 (by decide) rfl (fun ls hl => ?_)
        refine lv_goto (tgt := 7) C.1.1 C.1.2.1 dX0_gatherFree_64 (by decide) ?_
        exact hP7 t20 hw hS (lv_sub hl [1, 0] rfl) h
set_option maxHeartbeats 4000000 in
set_option maxRecDepth 10000 in
theorem uX0_gatherFree_7 {p : Program} {l : Launch} {e : Env} {s : State} {m : MethodId} {args : Array Value} {below : List Frame} {meth : Method} {c : Code} {G : GG} {SB : St} (C : Cx p s m args meth c G RX0 cX0_gatherFree 2 none) {S : St} {H : Heap} {locs : List Loc} {ls : Array Slot}  {k : St → Prop} (hw : Wd G ((injC SB) S) H) (hS : va_S (AG G) s.heap H locs) {xv1 : Int32} {x1 : Int} (xt1 : xv1.toInt = x1) (hl : lv_has ls 2 [(0, .ref (G.2.2 1034)), (1, .int xv1)])  (h : wX0_gatherFree_7 S x1 k) : W p l e (rmF 2 42) s m args below meth c H locs 0 0 (MQ below (QcV G (injC SB) k) args s 0 0 (AG G)) (F0 m 7 ls []) := by
  have key : ∀ (n : Nat) {H : Heap} {locs : List Loc} {ls : Array Slot} {S : St} {xv1 : Int32} {x1 : Int}, xv1.toInt = x1 → Wd G ((injC SB) S) H → va_S (AG G) s.heap H locs → lv_has ls 2 [(0, .ref (G.2.2 1034)), (1, .int xv1)] → itP (fun (P : Int × St → Prop) (a : Int × St) => wX0_gatherFree_7_b a.2 a.1 (fun b0 b1 => P (b0, b1)) k) n (x1, S) → W p l e (rmF 2 42) s m args below meth c H locs 0 0 (MQ below (QcV G (injC SB) k) args s 0 0 (AG G)) (F0 m 7 ls []) := by
    intro n
    induction n with
    | zero => intro H locs ls S xv1 x1 xt1 hw hS hl h; exact h.elim
    | succ n ih =>
      intro H locs ls S xv1 x1 xt1 hw hS hl h
      exact uX0_gatherFree_7_b C hw hS xt1 hl  (P7 := fun b0 b1 => itP _ n (b0, b1)) (fun q0 hw hS hl h => ih q0 hw hS hl h) h
  obtain ⟨n, hn⟩ := h
  exact key n xt1 hw hS hl hn
set_option maxHeartbeats 4000000 in
set_option maxRecDepth 10000 in
theorem uX0_gatherFree_0 {p : Program} {l : Launch} {e : Env} {s : State} {m : MethodId} {args : Array Value} {below : List Frame} {meth : Method} {c : Code} {G : GG} {SB : St} (C : Cx p s m args meth c G RX0 cX0_gatherFree 2 none) {S : St} {H : Heap} {locs : List Loc} {ls : Array Slot}  {k : St → Prop} (hw : Wd G ((injC SB) S) H) (hS : va_S (AG G) s.heap H locs)  (hl : lv_has ls 2 [(0, .ref (G.2.2 1034))])  (h : wX0_gatherFree_0 S k) : W p l e (rmF 2 42) s m args below meth c H locs 0 0 (MQ below (QcV G (injC SB) k) args s 0 0 (AG G)) (F0 m 0 ls []) := by
  refine lv_aload_n C.1.1 C.1.2.1 dX0_gatherFree_0 rfl (lv_at hl 0 rfl) ?_
  refine y_iconst C dX0_gatherFree_1 ⟨by decide, by decide⟩ (fun v1 t1 => ?_)
  obtain ⟨S_2, e2⟩ : ∃ z : St, z = up S 1034 4 0 := ⟨_, rfl⟩
  have h := h S_2 e2
  refine y_putI C fl_X0_126 fp_0_4 hw hS (ock_0 SB) rfl t1 dX0_gatherFree_2 (fun H locs hw hS => ?_)
  have hw : Wd G ((injC SB) S_2) H := by rw [e2]; exact hw
  refine y_iconst C dX0_gatherFree_5 ⟨by decide, by decide⟩ (fun v3 t3 => ?_)
  refine lv_istore_n (lv' := [(1, .int v3), (0, .ref (G.2.2 1034))]) C.1.1 C.1.2.1 dX0_gatherFree_6 rfl hl (by decide) rfl (fun ls hl => ?_)
  exact uX0_gatherFree_7 C hw hS t3 (lv_sub hl [1, 0] rfl)  h
theorem kX0_gatherFree (l : Launch) (G : GG) (SB S : St)  {k : St → Prop} (h : wX0_gatherFree S k) : CnV l yX0_gatherFree cX0_gatherFree 2 none 2 42 G (injC SB) [.ref (G.2.2 1034)] S k :=
  cn_body (by decide +kernel) (Nat.le_of_ble_eq_true rfl) (fun p e s m args below meth c ls C hw hl => uX0_gatherFree_0 C hw va_S.rf  (lv_sub hl [0] rfl) h)
set_option maxHeartbeats 4000000 in
set_option maxRecDepth 10000 in
theorem uX0_isAlike_0 {p : Program} {l : Launch} {e : Env} {s : State} {m : MethodId} {args : Array Value} {below : List Frame} {meth : Method} {c : Code} {G : GG} {SB : St} (C : Cx p s m args meth c G RX0 cX0_isAlike 5 (some .boolean)) {S : St} {H : Heap} {locs : List Loc} {ls : Array Slot}  {k : Int → Prop} (hw : Wd G ((injC SB) S) H) (hS : va_S (AG G) s.heap H locs) {xv1 : Int32} {x1 : Int} (xt1 : xv1.toInt = x1) {xv2 : Int32} {x2 : Int} (xt2 : xv2.toInt = x2) (hl : lv_has ls 5 [(0, .ref (G.2.2 1034)), (1, .int xv1), (2, .int xv2)])  (h : wX0_isAlike_0 S x1 x2 k) : W p l e (rmF 0 0) s m args below meth c H locs 0 0 (MQ below (QcI G (injC SB) (fun r u => k r ∧ u = S)) args s 0 0 (AG G)) (F0 m 0 ls []) := by
  refine lv_iload_n C.1.1 C.1.2.1 dX0_isAlike_0 rfl (lv_at hl 1 rfl) ?_
  refine y_iconst C dX0_isAlike_1 ⟨by decide, by decide⟩ (fun v1 t1 => ?_)
  refine y_imul C xt1 t1 dX0_isAlike_2 (fun v2 t2 => ?_)
  obtain ⟨x_3, e3⟩ : ∃ z : Int, z = w32 (x1 * 3) := ⟨_, rfl⟩
  have h := h x_3 e3
  have t3 := t2.trans e3.symm
  refine lv_istore_n (lv' := [(3, .int v2), (0, .ref (G.2.2 1034)), (1, .int xv1), (2, .int xv2)]) C.1.1 C.1.2.1 dX0_isAlike_3 rfl hl (by decide) rfl (fun ls hl => ?_)
  refine lv_iload_n C.1.1 C.1.2.1 dX0_isAlike_4 rfl (lv_at hl 3 rfl) ?_
  refine y_iconst C dX0_isAlike_5 ⟨by decide, by decide⟩ (fun v4 t4 => ?_)
  refine y_imul C xt2 t4 dX0_isAlike_6 (fun v5 t5 => ?_)
  obtain ⟨x_6, e6⟩ : ∃ z : Int, z = w32 (x2 * 3) := ⟨_, rfl⟩
  have h := h x_6 e6
  have t6 := t5.trans e6.symm
  refine lv_istore (lv' := [(4, .int v5), (3, .int v2), (0, .ref (G.2.2 1034)), (1, .int xv1), (2, .int xv2)]) C.1.1 C.1.2.1 dX0_isAlike_7 hl (by decide) rfl (fun ls hl => ?_)
  refine lv_aload_n C.1.1 C.1.2.1 dX0_isAlike_9 rfl (lv_at hl 2 rfl) ?_
  obtain ⟨x_7, e7⟩ : ∃ z : Int, z = S 1034 0 := ⟨_, rfl⟩
  obtain ⟨o7, h⟩ := h x_7 e7
  refine y_getO C fl_X0_18 hw (ock_0 SB) rfl e7 o7 dX0_isAlike_10 ?_
  refine y_getA C fl_X0_66 hw (oc_of SB o7) rfl (o := 2) rfl dX0_isAlike_13 ?_
  refine lv_iload_n C.1.1 C.1.2.1 dX0_isAlike_16 rfl (lv_at hl 3 rfl) ?_
  obtain ⟨b9, h⟩ := h
  obtain ⟨x_9, e9⟩ : ∃ z : Int, z = x_7 + 150 + 3 * x1 := ⟨_, rfl⟩
  have h := h x_9 e9
  have o9 : isO 3 x_9 := isO_mb o7 b9 e9
  refine y_mbO C hw o7 xt1 b9 e9 dX0_isAlike_17 ?_
  refine y_getJ C fl_X0_135 hw (oc_of SB o9) rfl dX0_isAlike_18 (fun v10 t10 => ?_)
  refine lv_aload_n C.1.1 C.1.2.1 dX0_isAlike_21 rfl (lv_at hl 2 rfl) ?_
  obtain ⟨x_11, e11⟩ : ∃ z : Int, z = S 1034 0 := ⟨_, rfl⟩
  obtain ⟨o11, h⟩ := h x_11 e11
  refine y_getO C fl_X0_18 hw (ock_0 SB) rfl e11 o11 dX0_isAlike_22 ?_
  refine y_getA C fl_X0_66 hw (oc_of SB o11) rfl (o := 2) rfl dX0_isAlike_25 ?_
  refine lv_iload_n C.1.1 C.1.2.1 dX0_isAlike_28 rfl (lv_at hl 4 rfl) ?_
  obtain ⟨b13, h⟩ := h
  obtain ⟨x_13, e13⟩ : ∃ z : Int, z = x_11 + 150 + 3 * x2 := ⟨_, rfl⟩
  have h := h x_13 e13
  have o13 : isO 3 x_13 := isO_mb o11 b13 e13
  refine y_mbO C hw o11 xt2 b13 e13 dX0_isAlike_29 ?_
  refine y_getJ C fl_X0_135 hw (oc_of SB o13) rfl dX0_isAlike_30 (fun v14 t14 => ?_)
  refine y_lcmp C t10 t14 dX0_isAlike_33 (fun v15 t15 => ?_)
  refine y_if_ne C t15 dX0_isAlike_34 (tgt := 77) (by decide) (fun c16 => ?_) (fun c16 => ?_)
  · have c16 := cmp_ne.mp c16
    have h := h.1 c16
    refine y_iconst C dX0_isAlike_77 ⟨by decide, by decide⟩ (fun v17 t17 => ?_)
    exact y_zret C hw hS t17 (Or.inl rfl) ⟨h, rfl⟩ dX0_isAlike_78
  · have c16 := cmp_eq.mp c16
    have h := h.2 c16
    refine lv_aload_n C.1.1 C.1.2.1 dX0_isAlike_37 rfl (lv_at hl 2 rfl) ?_
    refine y_getA C fl_X0_9 hw (ock_0 SB) rfl (o := 1) rfl dX0_isAlike_38 ?_
    refine lv_iload_n C.1.1 C.1.2.1 dX0_isAlike_41 rfl (lv_at hl 1 rfl) ?_
    obtain ⟨b19, h⟩ := h
    refine y_iald C hw (ack_0_2 SB) t3 b19 dX0_isAlike_42 (fun v19 t19 => ?_)
    refine lv_aload_n C.1.1 C.1.2.1 dX0_isAlike_43 rfl (lv_at hl 2 rfl) ?_
    refine y_getA C fl_X0_9 hw (ock_0 SB) rfl (o := 1) rfl dX0_isAlike_44 ?_
    refine lv_iload C.1.1 C.1.2.1 dX0_isAlike_47 (lv_at hl 0 rfl) ?_
    obtain ⟨b21, h⟩ := h
    refine y_iald C hw (ack_0_2 SB) t6 b21 dX0_isAlike_49 (fun v21 t21 => ?_)
    refine y_icmp_ne C t19 t21 dX0_isAlike_50 (tgt := 77) (by decide) (fun c22 => ?_) (fun c22 => ?_)
    · have h := h.1 c22
      refine y_iconst C dX0_isAlike_77 ⟨by decide, by decide⟩ (fun v23 t23 => ?_)
      exact y_zret C hw hS t23 (Or.inl rfl) ⟨h, rfl⟩ dX0_isAlike_78
    · have h := h.2 c22
      refine lv_aload_n C.1.1 C.1.2.1 dX0_isAlike_53 rfl (lv_at hl 2 rfl) ?_
      refine y_getA C fl_X0_9 hw (ock_0 SB) rfl (o := 1) rfl dX0_isAlike_54 ?_
      refine lv_iload_n C.1.1 C.1.2.1 dX0_isAlike_57 rfl (lv_at hl 1 rfl) ?_
      refine y_iconst C dX0_isAlike_58 ⟨by decide, by decide⟩ (fun v25 t25 => ?_)
      refine y_iadd C t3 t25 dX0_isAlike_59 (fun v26 t26 => ?_)
      obtain ⟨b27, h⟩ := h
      refine y_iald C hw (ack_0_2 SB) t26 b27 dX0_isAlike_60 (fun v27 t27 => ?_)
      refine lv_aload_n C.1.1 C.1.2.1 dX0_isAlike_61 rfl (lv_at hl 2 rfl) ?_
      refine y_getA C fl_X0_9 hw (ock_0 SB) rfl (o := 1) rfl dX0_isAlike_62 ?_
      refine lv_iload C.1.1 C.1.2.1 dX0_isAlike_65 (lv_at hl 0 rfl) ?_
      refine y_iconst C dX0_isAlike_67 ⟨by decide, by decide⟩ (fun v29 t29 => ?_)
      refine y_iadd C t6 t29 dX0_isAlike_68 (fun v30 t30 => ?_)
      obtain ⟨b31, h⟩ := h
      refine y_iald C hw (ack_0_2 SB) t30 b31 dX0_isAlike_69 (fun v31 t31 => ?_)
      refine y_icmp_ne C t27 t31 dX0_isAlike_70 (tgt := 77) (by decide) (fun c32 => ?_) (fun c32 => ?_)
      · have h := h.1 c32
        refine y_iconst C dX0_isAlike_77 ⟨by decide, by decide⟩ (fun v33 t33 => ?_)
        exact y_zret C hw hS t33 (Or.inl rfl) ⟨h, rfl⟩ dX0_isAlike_78
      · have h := h.2 c32
        refine y_iconst C dX0_isAlike_73 ⟨by decide, by decide⟩ (fun v34 t34 => ?_)
        refine lv_goto (tgt := 78) C.1.1 C.1.2.1 dX0_isAlike_74 (by decide) ?_
        exact y_zret C hw hS t34 (Or.inr rfl) ⟨h, rfl⟩ dX0_isAlike_78
theorem kX0_isAlike (l : Launch) (G : GG) (SB S : St) {xv1 : Int32} {x1 : Int} (xt1 : xv1.toInt = x1) {xv2 : Int32} {x2 : Int} (xt2 : xv2.toInt = x2) {k : Int → Prop} (h : wX0_isAlike S x1 x2 k) : CnI l yX0_isAlike cX0_isAlike 5 (some .boolean) 0 0 G (injC SB) [.ref (G.2.2 1034), .int xv1, .int xv2] S (fun r u => k r ∧ u = S) :=
  cn_body (by decide +kernel) (Nat.le_of_ble_eq_true rfl) (fun p e s m args below meth c ls C hw hl => uX0_isAlike_0 C hw va_S.rf xt1 xt2 (lv_sub hl [0, 1, 2] rfl) h)
set_option maxHeartbeats 4000000 in
set_option maxRecDepth 10000 in
theorem uX0_isWithinReach_0 {p : Program} {l : Launch} {e : Env} {s : State} {m : MethodId} {args : Array Value} {below : List Frame} {meth : Method} {c : Code} {G : GG} {SB : St} (C : Cx p s m args meth c G RX0 cX0_isWithinReach 3 (some .boolean)) {S : St} {H : Heap} {locs : List Loc} {ls : Array Slot}  {k : Int → Prop} (hw : Wd G ((injC SB) S) H) (hS : va_S (AG G) s.heap H locs) {xv1 : Int32} {x1 : Int} (xt1 : xv1.toInt = x1) (hl : lv_has ls 3 [(0, .ref (G.2.2 1034)), (1, .int xv1)])  (h : wX0_isWithinReach_0 S x1 k) : W p l e (rmF 1 22) s m args below meth c H locs 0 0 (MQ below (QcI G (injC SB) (fun r u => k r ∧ u = S)) args s 0 0 (AG G)) (F0 m 0 ls []) := by
  refine lv_aload_n C.1.1 C.1.2.1 dX0_isWithinReach_0 rfl (lv_at hl 0 rfl) ?_
  obtain ⟨x_1, e1⟩ : ∃ z : Int, z = S 1034 0 := ⟨_, rfl⟩
  obtain ⟨o1, h⟩ := h x_1 e1
  refine y_getO C fl_X0_18 hw (ock_0 SB) rfl e1 o1 dX0_isWithinReach_1 ?_
  refine y_getA C fl_X0_66 hw (oc_of SB o1) rfl (o := 2) rfl dX0_isWithinReach_4 ?_
  refine lv_iload_n C.1.1 C.1.2.1 dX0_isWithinReach_7 rfl (lv_at hl 1 rfl) ?_
  obtain ⟨b3, h⟩ := h
  obtain ⟨x_3, e3⟩ : ∃ z : Int, z = x_1 + 150 + 3 * x1 := ⟨_, rfl⟩
  have h := h x_3 e3
  have o3 : isO 3 x_3 := isO_mb o1 b3 e3
  refine y_mbO C hw o1 xt1 b3 e3 dX0_isWithinReach_8 ?_
  refine lv_astore_n (lv' := [(2, .ref (G.2.2 (x_3).toNat)), (0, .ref (G.2.2 1034)), (1, .int xv1)]) C.1.1 C.1.2.1 dX0_isWithinReach_9 rfl hl (by decide) rfl (fun ls hl => ?_)
  refine lv_aload_n C.1.1 C.1.2.1 dX0_isWithinReach_10 rfl (lv_at hl 0 rfl) ?_
  refine y_getI C fl_X0_156 hw (oc_of SB o3) rfl dX0_isWithinReach_11 (fun v4 t4 => ?_)
  refine y_iconst C dX0_isWithinReach_14 ⟨by decide, by decide⟩ (fun v5 t5 => ?_)
  refine y_icmp_ge C t4 t5 dX0_isWithinReach_15 (tgt := 39) (by decide) (fun c6 => ?_) (fun c6 => ?_)
  · have h := h.1 c6
    refine y_iconst C dX0_isWithinReach_39 ⟨by decide, by decide⟩ (fun v7 t7 => ?_)
    refine lv_goto (tgt := 44) C.1.1 C.1.2.1 dX0_isWithinReach_40 (by decide) ?_
    exact y_zret C hw hS t7 (Or.inr rfl) ⟨h, rfl⟩ dX0_isWithinReach_44
  · have h := h.2 c6
    refine lv_aload_n C.1.1 C.1.2.1 dX0_isWithinReach_18 rfl (lv_at hl 1 rfl) ?_
    obtain ⟨x_8, e8⟩ : ∃ z : Int, z = S 1034 0 := ⟨_, rfl⟩
    obtain ⟨o8, h⟩ := h x_8 e8
    refine y_getO C fl_X0_18 hw (ock_0 SB) rfl e8 o8 dX0_isWithinReach_19 ?_
    refine lv_aload_n C.1.1 C.1.2.1 dX0_isWithinReach_22 rfl (lv_at hl 1 rfl) ?_
    obtain ⟨x_9, e9⟩ : ∃ z : Int, z = S 1034 1 := ⟨_, rfl⟩
    obtain ⟨o9, h⟩ := h x_9 e9
    refine y_getO C fl_X0_28 hw (ock_0 SB) rfl e9 o9 dX0_isWithinReach_23 ?_
    refine y_getI C fl_X0_82 hw (oc_of SB o9) rfl dX0_isWithinReach_26 (fun v10 t10 => ?_)
    refine lv_aload_n C.1.1 C.1.2.1 dX0_isWithinReach_29 rfl (lv_at hl 0 rfl) ?_
    refine y_getI C fl_X0_116 hw (oc_of SB o3) rfl dX0_isWithinReach_30 (fun v11 t11 => ?_)
    refine y_cVIp C (As := [.int v10, .int v11]) (rest := []) ml_X0_159 (kX2_samePackage l G SB S o8 t10 t11 h) (oc_of SB o8) (T := TX2) (N := 9) rfl (by decide) ⟨(Nat.le_of_ble_eq_true rfl), (Nat.le_of_ble_eq_true rfl)⟩ hl.1 rfl rfl (Nat.le_of_ble_eq_true rfl) hw hS dX0_isWithinReach_33 (fun v12 x_12 H locs t12 h hw hS => ?_)
    refine y_if_eq C t12 dX0_isWithinReach_36 (tgt := 43) (by decide) (fun c13 => ?_) (fun c13 => ?_)
    · have h := h.1 c13
      refine y_iconst C dX0_isWithinReach_43 ⟨by decide, by decide⟩ (fun v14 t14 => ?_)
      exact y_zret C hw hS t14 (Or.inl rfl) ⟨h, rfl⟩ dX0_isWithinReach_44
    · have h := h.2 c13
      refine y_iconst C dX0_isWithinReach_39 ⟨by decide, by decide⟩ (fun v15 t15 => ?_)
      refine lv_goto (tgt := 44) C.1.1 C.1.2.1 dX0_isWithinReach_40 (by decide) ?_
      exact y_zret C hw hS t15 (Or.inr rfl) ⟨h, rfl⟩ dX0_isWithinReach_44
theorem kX0_isWithinReach (l : Launch) (G : GG) (SB S : St) {xv1 : Int32} {x1 : Int} (xt1 : xv1.toInt = x1) {k : Int → Prop} (h : wX0_isWithinReach S x1 k) : CnI l yX0_isWithinReach cX0_isWithinReach 3 (some .boolean) 1 22 G (injC SB) [.ref (G.2.2 1034), .int xv1] S (fun r u => k r ∧ u = S) :=
  cn_body (by decide +kernel) (Nat.le_of_ble_eq_true rfl) (fun p e s m args below meth c ls C hw hl => uX0_isWithinReach_0 C hw va_S.rf xt1 (lv_sub hl [0, 1] rfl) h)
set_option maxHeartbeats 4000000 in
set_option maxRecDepth 10000 in
theorem uX0_overridesBetween_4_b {p : Program} {l : Launch} {e : Env} {s : State} {m : MethodId} {args : Array Value} {below : List Frame} {meth : Method} {c : Code} {G : GG} {SB : St} (C : Cx p s m args meth c G RX0 cX0_overridesBetween 4 (some .boolean)) {S : St} {H : Heap} {locs : List Loc} {ls : Array Slot}  {P4 : Int → Prop} {k : Int → Prop} (hw : Wd G ((injC SB) S) H) (hS : va_S (AG G) s.heap H locs) {xv1 : Int32} {x1 : Int} (xt1 : xv1.toInt = x1) {xv2 : Int32} {x2 : Int} (xt2 : xv2.toInt = x2) {xv3 : Int32} {x3 : Int} (xt3 : xv3.toInt = x3) (hl : lv_has ls 4 [(0, .ref (G.2.2 1034)), (1, .int xv1), (2, .int xv2), (3, .int xv3)])  (hP4 : ∀ {H : Heap} {locs : List Loc} {ls : Array Slot} {yv3 : Int32} {y3 : Int}, yv3.toInt = y3 → Wd G ((injC SB) S) H → va_S (AG G) s.heap H locs → lv_has ls 4 [(0, .ref (G.2.2 1034)), (1, .int xv1), (2, .int xv2), (3, .int yv3)] → P4 y3 → W p l e (rmF 1 22) s m args below meth c H locs 0 0 (MQ below (QcI G (injC SB) (fun r u => k r ∧ u = S)) args s 0 0 (AG G)) (F0 m 4 ls [])) (h : wX0_overridesBetween_4_b S x1 x2 x3 P4 k) : W p l e (rmF 1 22) s m args below meth c H locs 0 0 (MQ below (QcI G (injC SB) (fun r u => k r ∧ u = S)) args s 0 0 (AG G)) (F0 m 4 ls []) := by
  refine lv_iload_n C.1.1 C.1.2.1 dX0_overridesBetween_4 rfl (lv_at hl 3 rfl) ?_
  refine lv_aload_n C.1.1 C.1.2.1 dX0_overridesBetween_5 rfl (lv_at hl 0 rfl) ?_
  obtain ⟨x_1, e1⟩ : ∃ z : Int, z = S 1034 1 := ⟨_, rfl⟩
  obtain ⟨o1, h⟩ := h x_1 e1
  refine y_getO C fl_X0_28 hw (ock_0 SB) rfl e1 o1 dX0_overridesBetween_6 ?_
  refine y_getI C fl_X0_57 hw (oc_of SB o1) rfl dX0_overridesBetween_9 (fun v2 t2 => ?_)
  refine y_icmp_ge C xt3 t2 dX0_overridesBetween_12 (tgt := 47) (by decide) (fun c3 => ?_) (fun c3 => ?_)
  · have h := h.1 c3
    refine y_iconst C dX0_overridesBetween_47 ⟨by decide, by decide⟩ (fun v4 t4 => ?_)
    exact y_zret C hw hS t4 (Or.inl rfl) ⟨h, rfl⟩ dX0_overridesBetween_48
  · have h := h.2 c3
    refine lv_aload_n C.1.1 C.1.2.1 dX0_overridesBetween_15 rfl (lv_at hl 0 rfl) ?_
    obtain ⟨x_5, e5⟩ : ∃ z : Int, z = S 1034 0 := ⟨_, rfl⟩
    obtain ⟨o5, h⟩ := h x_5 e5
    refine y_getO C fl_X0_18 hw (ock_0 SB) rfl e5 o5 dX0_overridesBetween_16 ?_
    refine lv_iload_n C.1.1 C.1.2.1 dX0_overridesBetween_19 rfl (lv_at hl 1 rfl) ?_
    refine lv_iload_n C.1.1 C.1.2.1 dX0_overridesBetween_20 rfl (lv_at hl 3 rfl) ?_
    refine y_cVIp C (As := [.int xv1, .int xv3]) (rest := []) ml_X0_162 (kX2_hasOverride l G SB S o5 xt1 xt3 h) (oc_of SB o5) (T := TX2) (N := 9) rfl (by decide) ⟨(Nat.le_of_ble_eq_true rfl), (Nat.le_of_ble_eq_true rfl)⟩ hl.1 rfl rfl (Nat.le_of_ble_eq_true rfl) hw hS dX0_overridesBetween_21 (fun v6 x_6 H locs t6 h hw hS => ?_)
    refine y_if_eq C t6 dX0_overridesBetween_24 (tgt := 41) (by decide) (fun c7 => ?_) (fun c7 => ?_)
    · have h := h.1 c7
      obtain ⟨x_8, e8⟩ : ∃ z : Int, z = w32 (x3 + 1) := ⟨_, rfl⟩
      have h := h x_8 e8
      obtain ⟨v8, t8, g8⟩ : ∃ z : Int32, z.toInt = x_8 ∧ xv3 + Int32.ofInt 1 = z := ⟨_, (ti_inc xt3 ⟨by decide, by decide⟩).trans e8.symm, rfl⟩
      refine lv_iinc (v := v8) (lv' := [(3, .int v8), (0, .ref (G.2.2 1034)), (1, .int xv1), (2, .int xv2)]) C.1.1 C.1.2.1 dX0_overridesBetween_41 hl (k := 3) rfl g8 (by decide) rfl (fun ls hl => ?_)
      refine lv_goto (tgt := 4) C.1.1 C.1.2.1 dX0_overridesBetween_44 (by decide) ?_
      exact hP4 t8 hw hS (lv_sub hl [1, 2, 3, 0] rfl) h
    · have h := h.2 c7
      refine lv_aload_n C.1.1 C.1.2.1 dX0_overridesBetween_27 rfl (lv_at hl 0 rfl) ?_
      obtain ⟨x_9, e9⟩ : ∃ z : Int, z = S 1034 0 := ⟨_, rfl⟩
      obtain ⟨o9, h⟩ := h x_9 e9
      refine y_getO C fl_X0_18 hw (ock_0 SB) rfl e9 o9 dX0_overridesBetween_28 ?_
      refine lv_iload_n C.1.1 C.1.2.1 dX0_overridesBetween_31 rfl (lv_at hl 3 rfl) ?_
      refine lv_iload_n C.1.1 C.1.2.1 dX0_overridesBetween_32 rfl (lv_at hl 2 rfl) ?_
      refine y_cVIp C (As := [.int xv3, .int xv2]) (rest := []) ml_X0_162 (kX2_hasOverride l G SB S o9 xt3 xt2 h) (oc_of SB o9) (T := TX2) (N := 9) rfl (by decide) ⟨(Nat.le_of_ble_eq_true rfl), (Nat.le_of_ble_eq_true rfl)⟩ hl.1 rfl rfl (Nat.le_of_ble_eq_true rfl) hw hS dX0_overridesBetween_33 (fun v10 x_10 H locs t10 h hw hS => ?_)
      refine y_if_eq C t10 dX0_overridesBetween_36 (tgt := 41) (by decide) (fun c11 => ?_) (fun c11 => ?_)
      · have h := h.1 c11
        obtain ⟨x_12, e12⟩ : ∃ z : Int, z = w32 (x3 + 1) := ⟨_, rfl⟩
        have h := h x_12 e12
        obtain ⟨v12, t12, g12⟩ : ∃ z : Int32, z.toInt = x_12 ∧ xv3 + Int32.ofInt 1 = z := ⟨_, (ti_inc xt3 ⟨by decide, by decide⟩).trans e12.symm, rfl⟩
        refine lv_iinc (v := v12) (lv' := [(3, .int v12), (0, .ref (G.2.2 1034)), (1, .int xv1), (2, .int xv2)]) C.1.1 C.1.2.1 dX0_overridesBetween_41 hl (k := 3) rfl g12 (by decide) rfl (fun ls hl => ?_)
        refine lv_goto (tgt := 4) C.1.1 C.1.2.1 dX0_overridesBetween_44 (by decide) ?_
        exact hP4 t12 hw hS (lv_sub hl [1, 2, 3, 0] rfl) h
      · have h := h.2 c11
        refine y_iconst C dX0_overridesBetween_39 ⟨by decide, by decide⟩ (fun v13 t13 => ?_)
        exact y_zret C hw hS t13 (Or.inr rfl) ⟨h, rfl⟩ dX0_overridesBetween_40
set_option maxHeartbeats 4000000 in
set_option maxRecDepth 10000 in
theorem uX0_overridesBetween_4 {p : Program} {l : Launch} {e : Env} {s : State} {m : MethodId} {args : Array Value} {below : List Frame} {meth : Method} {c : Code} {G : GG} {SB : St} (C : Cx p s m args meth c G RX0 cX0_overridesBetween 4 (some .boolean)) {S : St} {H : Heap} {locs : List Loc} {ls : Array Slot}  {k : Int → Prop} (hw : Wd G ((injC SB) S) H) (hS : va_S (AG G) s.heap H locs) {xv1 : Int32} {x1 : Int} (xt1 : xv1.toInt = x1) {xv2 : Int32} {x2 : Int} (xt2 : xv2.toInt = x2) {xv3 : Int32} {x3 : Int} (xt3 : xv3.toInt = x3) (hl : lv_has ls 4 [(0, .ref (G.2.2 1034)), (1, .int xv1), (2, .int xv2), (3, .int xv3)])  (h : wX0_overridesBetween_4 S x1 x2 x3 k) : W p l e (rmF 1 22) s m args below meth c H locs 0 0 (MQ below (QcI G (injC SB) (fun r u => k r ∧ u = S)) args s 0 0 (AG G)) (F0 m 4 ls []) := by
  have key : ∀ (n : Nat) {H : Heap} {locs : List Loc} {ls : Array Slot} {xv3 : Int32} {x3 : Int}, xv3.toInt = x3 → Wd G ((injC SB) S) H → va_S (AG G) s.heap H locs → lv_has ls 4 [(0, .ref (G.2.2 1034)), (1, .int xv1), (2, .int xv2), (3, .int xv3)] → itP (fun (P : Int → Prop) (a : Int) => wX0_overridesBetween_4_b S x1 x2 a (fun b0 => P (b0)) k) n (x3) → W p l e (rmF 1 22) s m args below meth c H locs 0 0 (MQ below (QcI G (injC SB) (fun r u => k r ∧ u = S)) args s 0 0 (AG G)) (F0 m 4 ls []) := by
    intro n
    induction n with
    | zero => intro H locs ls xv3 x3 xt3 hw hS hl h; exact h.elim
    | succ n ih =>
      intro H locs ls xv3 x3 xt3 hw hS hl h
      exact uX0_overridesBetween_4_b C hw hS xt1 xt2 xt3 hl  (P4 := fun b0 => itP _ n (b0)) (fun q0 hw hS hl h => ih q0 hw hS hl h) h
  obtain ⟨n, hn⟩ := h
  exact key n xt3 hw hS hl hn
set_option maxHeartbeats 4000000 in
set_option maxRecDepth 10000 in
theorem uX0_overridesBetween_0 {p : Program} {l : Launch} {e : Env} {s : State} {m : MethodId} {args : Array Value} {below : List Frame} {meth : Method} {c : Code} {G : GG} {SB : St} (C : Cx p s m args meth c G RX0 cX0_overridesBetween 4 (some .boolean)) {S : St} {H : Heap} {locs : List Loc} {ls : Array Slot}  {k : Int → Prop} (hw : Wd G ((injC SB) S) H) (hS : va_S (AG G) s.heap H locs) {xv1 : Int32} {x1 : Int} (xt1 : xv1.toInt = x1) {xv2 : Int32} {x2 : Int} (xt2 : xv2.toInt = x2) (hl : lv_has ls 4 [(0, .ref (G.2.2 1034)), (1, .int xv1), (2, .int xv2)])  (h : wX0_overridesBetween_0 S x1 x2 k) : W p l e (rmF 1 22) s m args below meth c H locs 0 0 (MQ below (QcI G (injC SB) (fun r u => k r ∧ u = S)) args s 0 0 (AG G)) (F0 m 0 ls []) := by
  refine lv_iload_n C.1.1 C.1.2.1 dX0_overridesBetween_0 rfl (lv_at hl 2 rfl) ?_
  refine y_iconst C dX0_overridesBetween_1 ⟨by decide, by decide⟩ (fun v1 t1 => ?_)
  refine y_iadd C xt2 t1 dX0_overridesBetween_2 (fun v2 t2 => ?_)
  obtain ⟨x_3, e3⟩ : ∃ z : Int, z = w32 (x2 + 1) := ⟨_, rfl⟩
  have h := h x_3 e3
  have t3 := t2.trans e3.symm
  refine lv_istore_n (lv' := [(3, .int v2), (0, .ref (G.2.2 1034)), (1, .int xv1), (2, .int xv2)]) C.1.1 C.1.2.1 dX0_overridesBetween_3 rfl hl (by decide) rfl (fun ls hl => ?_)
  exact uX0_overridesBetween_4 C hw hS xt1 xt2 t3 (lv_sub hl [1, 2, 3, 0] rfl)  h
theorem kX0_overridesBetween (l : Launch) (G : GG) (SB S : St) {xv1 : Int32} {x1 : Int} (xt1 : xv1.toInt = x1) {xv2 : Int32} {x2 : Int} (xt2 : xv2.toInt = x2) {k : Int → Prop} (h : wX0_overridesBetween S x1 x2 k) : CnI l yX0_overridesBetween cX0_overridesBetween 4 (some .boolean) 1 22 G (injC SB) [.ref (G.2.2 1034), .int xv1, .int xv2] S (fun r u => k r ∧ u = S) :=
  cn_body (by decide +kernel) (Nat.le_of_ble_eq_true rfl) (fun p e s m args below meth c ls C hw hl => uX0_overridesBetween_0 C hw va_S.rf xt1 xt2 (lv_sub hl [0, 1, 2] rfl) h)
set_option maxHeartbeats 4000000 in
set_option maxRecDepth 10000 in
theorem uX0_markOverridesOf_44 {p : Program} {l : Launch} {e : Env} {s : State} {m : MethodId} {args : Array Value} {below : List Frame} {meth : Method} {c : Code} {G : GG} {SB : St} (C : Cx p s m args meth c G RX0 cX0_markOverridesOf 4 none) {S : St} {H : Heap} {locs : List Loc} {ls : Array Slot} {P7 : Int → St → Prop} {k : St → Prop} (hw : Wd G ((injC SB) S) H) (hS : va_S (AG G) s.heap H locs) {xv1 : Int32} {x1 : Int} (xt1 : xv1.toInt = x1) {xv2 : Int32} {x2 : Int} (xt2 : xv2.toInt = x2) {xv3 : Int32} {x3 : Int} (xt3 : xv3.toInt = x3) (hl : lv_has ls 4 [(0, .ref (G.2.2 1034)), (1, .int xv1), (2, .int xv2), (3, .int xv3)]) (hP7 : ∀ {H : Heap} {locs : List Loc} {ls : Array Slot} {Sy : St} {yv2 : Int32} {y2 : Int}, yv2.toInt = y2 → Wd G ((injC SB) Sy) H → va_S (AG G) s.heap H locs → lv_has ls 4 [(0, .ref (G.2.2 1034)), (1, .int xv1), (2, .int yv2)] → P7 y2 Sy → W p l e (rmF 2 45) s m args below meth c H locs 0 0 (MQ below (QcV G (injC SB) k) args s 0 0 (AG G)) (F0 m 7 ls [])) (h : wX0_markOverridesOf_44 S x1 x2 x3 P7 k) : W p l e (rmF 2 45) s m args below meth c H locs 0 0 (MQ below (QcV G (injC SB) k) args s 0 0 (AG G)) (F0 m 44 ls []) := by
  refine lv_aload_n C.1.1 C.1.2.1 dX0_markOverridesOf_44 rfl (lv_at hl 0 rfl) ?_
  obtain ⟨x_1, e1⟩ : ∃ z : Int, z = S 1034 0 := ⟨_, rfl⟩
  obtain ⟨o1, h⟩ := h x_1 e1
  refine y_getO C fl_X0_18 hw (ock_0 SB) rfl e1 o1 dX0_markOverridesOf_45 ?_
  refine lv_iload_n C.1.1 C.1.2.1 dX0_markOverridesOf_48 rfl (lv_at hl 1 rfl) ?_
  refine lv_iload_n C.1.1 C.1.2.1 dX0_markOverridesOf_49 rfl (lv_at hl 3 rfl) ?_
  refine y_cVV C (As := [.int xv1, .int xv3]) (rest := []) ml_X0_152 (kX2_setOverride l G SB S o1 xt1 xt3 h) (oc_of SB o1) (T := TX2) (N := 9) rfl (by decide) ⟨(Nat.le_of_ble_eq_true rfl), (Nat.le_of_ble_eq_true rfl)⟩ hl.1 rfl rfl (Nat.le_of_ble_eq_true rfl) hw hS dX0_markOverridesOf_50 (fun S_2 H locs h hw hS => ?_)
  obtain ⟨x_3, e3⟩ : ∃ z : Int, z = w32 (x2 + (-1)) := ⟨_, rfl⟩
  have h := h x_3 e3
  obtain ⟨v3, t3, g3⟩ : ∃ z : Int32, z.toInt = x_3 ∧ xv2 + Int32.ofInt (-1) = z := ⟨_, (ti_inc xt2 ⟨by decide, by decide⟩).trans e3.symm, rfl⟩
  refine lv_iinc (v := v3) (lv' := [(2, .int v3), (0, .ref (G.2.2 1034)), (1, .int xv1), (3, .int xv3)]) C.1.1 C.1.2.1 dX0_markOverridesOf_53 hl (k := 2) rfl g3 (by decide) rfl (fun ls hl => ?_)
  refine lv_goto (tgt := 7) C.1.1 C.1.2.1 dX0_markOverridesOf_56 (by decide) ?_
  exact hP7 t3 hw hS (lv_sub hl [1, 2, 0] rfl) h
set_option maxHeartbeats 4000000 in
set_option maxRecDepth 10000 in
theorem uX0_markOverridesOf_7_b {p : Program} {l : Launch} {e : Env} {s : State} {m : MethodId} {args : Array Value} {below : List Frame} {meth : Method} {c : Code} {G : GG} {SB : St} (C : Cx p s m args meth c G RX0 cX0_markOverridesOf 4 none) {S : St} {H : Heap} {locs : List Loc} {ls : Array Slot}  {P7 : Int → St → Prop} {k : St → Prop} (hw : Wd G ((injC SB) S) H) (hS : va_S (AG G) s.heap H locs) {xv1 : Int32} {x1 : Int} (xt1 : xv1.toInt = x1) {xv2 : Int32} {x2 : Int} (xt2 : xv2.toInt = x2) (hl : lv_has ls 4 [(0, .ref (G.2.2 1034)), (1, .int xv1), (2, .int xv2)])  (hP7 : ∀ {H : Heap} {locs : List Loc} {ls : Array Slot} {Sy : St} {yv2 : Int32} {y2 : Int}, yv2.toInt = y2 → Wd G ((injC SB) Sy) H → va_S (AG G) s.heap H locs → lv_has ls 4 [(0, .ref (G.2.2 1034)), (1, .int xv1), (2, .int yv2)] → P7 y2 Sy → W p l e (rmF 2 45) s m args below meth c H locs 0 0 (MQ below (QcV G (injC SB) k) args s 0 0 (AG G)) (F0 m 7 ls [])) (h : wX0_markOverridesOf_7_b S x1 x2 P7 k) : W p l e (rmF 2 45) s m args below meth c H locs 0 0 (MQ below (QcV G (injC SB) k) args s 0 0 (AG G)) (F0 m 7 ls []) := by
  refine lv_iload_n C.1.1 C.1.2.1 dX0_markOverridesOf_7 rfl (lv_at hl 2 rfl) ?_
  refine y_if_lt C xt2 dX0_markOverridesOf_8 (tgt := 59) (by decide) (fun c1 => ?_) (fun c1 => ?_)
  · have h := h.1 c1
    exact y_vret C hw hS h dX0_markOverridesOf_59
  · have h := h.2 c1
    refine lv_aload_n C.1.1 C.1.2.1 dX0_markOverridesOf_11 rfl (lv_at hl 0 rfl) ?_
    refine y_getA C fl_X0_15 hw (ock_0 SB) rfl (o := 2) rfl dX0_markOverridesOf_12 ?_
    refine lv_iload_n C.1.1 C.1.2.1 dX0_markOverridesOf_15 rfl (lv_at hl 2 rfl) ?_
    obtain ⟨b3, h⟩ := h
    refine y_iald C hw (ack_0_3 SB) xt2 b3 dX0_markOverridesOf_16 (fun v3 t3 => ?_)
    obtain ⟨x_4, e4⟩ : ∃ z : Int, z = S 1036 x2 := ⟨_, rfl⟩
    have h := h x_4 e4
    have t4 := t3.trans e4.symm
    refine lv_istore_n (lv' := [(3, .int v3), (0, .ref (G.2.2 1034)), (1, .int xv1), (2, .int xv2)]) C.1.1 C.1.2.1 dX0_markOverridesOf_17 rfl hl (by decide) rfl (fun ls hl => ?_)
    refine lv_aload_n C.1.1 C.1.2.1 dX0_markOverridesOf_18 rfl (lv_at hl 1 rfl) ?_
    refine lv_iload_n C.1.1 C.1.2.1 dX0_markOverridesOf_19 rfl (lv_at hl 2 rfl) ?_
    refine lv_iload_n C.1.1 C.1.2.1 dX0_markOverridesOf_20 rfl (lv_at hl 0 rfl) ?_
    refine y_cVIp C (As := [.int xv1, .int v3]) (rest := []) ml_X0_143 (kX0_isAlike l G SB S xt1 t4 h) (ock_0 SB) (T := TX0) (N := 5) rfl (by decide) ⟨(Nat.le_of_ble_eq_true rfl), (Nat.le_of_ble_eq_true rfl)⟩ hl.1 rfl rfl (Nat.le_of_ble_eq_true rfl) hw hS dX0_markOverridesOf_21 (fun v5 x_5 H locs t5 h hw hS => ?_)
    refine y_if_eq C t5 dX0_markOverridesOf_24 (tgt := 53) (by decide) (fun c6 => ?_) (fun c6 => ?_)
    · have h := h.1 c6
      obtain ⟨x_7, e7⟩ : ∃ z : Int, z = w32 (x2 + (-1)) := ⟨_, rfl⟩
      have h := h x_7 e7
      obtain ⟨v7, t7, g7⟩ : ∃ z : Int32, z.toInt = x_7 ∧ xv2 + Int32.ofInt (-1) = z := ⟨_, (ti_inc xt2 ⟨by decide, by decide⟩).trans e7.symm, rfl⟩
      refine lv_iinc (v := v7) (lv' := [(2, .int v7), (3, .int v3), (0, .ref (G.2.2 1034)), (1, .int xv1)]) C.1.1 C.1.2.1 dX0_markOverridesOf_53 hl (k := 3) rfl g7 (by decide) rfl (fun ls hl => ?_)
      refine lv_goto (tgt := 7) C.1.1 C.1.2.1 dX0_markOverridesOf_56 (by decide) ?_
      exact hP7 t7 hw hS (lv_sub hl [2, 3, 0] rfl) h
    · have h := h.2 c6
      refine lv_aload_n C.1.1 C.1.2.1 dX0_markOverridesOf_27 rfl (lv_at hl 1 rfl) ?_
      refine lv_iload_n C.1.1 C.1.2.1 dX0_markOverridesOf_28 rfl (lv_at hl 0 rfl) ?_
      refine y_cVIp C (As := [.int v3]) (rest := []) ml_X0_146 (kX0_isWithinReach l G SB S t4 h) (ock_0 SB) (T := TX0) (N := 5) rfl (by decide) ⟨(Nat.le_of_ble_eq_true rfl), (Nat.le_of_ble_eq_true rfl)⟩ hl.1 rfl rfl (Nat.le_of_ble_eq_true rfl) hw hS dX0_markOverridesOf_29 (fun v8 x_8 H locs t8 h hw hS => ?_)
      refine y_if_ne C t8 dX0_markOverridesOf_32 (tgt := 44) (by decide) (fun c9 => ?_) (fun c9 => ?_)
      · have h := h.1 c9
        exact uX0_markOverridesOf_44 C hw hS xt1 xt2 t4 (lv_sub hl [1, 2, 3, 0] rfl) hP7 h
      · have h := h.2 c9
        refine lv_aload_n C.1.1 C.1.2.1 dX0_markOverridesOf_35 rfl (lv_at hl 1 rfl) ?_
        refine lv_iload_n C.1.1 C.1.2.1 dX0_markOverridesOf_36 rfl (lv_at hl 2 rfl) ?_
        refine lv_iload_n C.1.1 C.1.2.1 dX0_markOverridesOf_37 rfl (lv_at hl 0 rfl) ?_
        refine y_cVIp C (As := [.int xv1, .int v3]) (rest := []) ml_X0_149 (kX0_overridesBetween l G SB S xt1 t4 h) (ock_0 SB) (T := TX0) (N := 5) rfl (by decide) ⟨(Nat.le_of_ble_eq_true rfl), (Nat.le_of_ble_eq_true rfl)⟩ hl.1 rfl rfl (Nat.le_of_ble_eq_true rfl) hw hS dX0_markOverridesOf_38 (fun v10 x_10 H locs t10 h hw hS => ?_)
        refine y_if_eq C t10 dX0_markOverridesOf_41 (tgt := 53) (by decide) (fun c11 => ?_) (fun c11 => ?_)
        · have h := h.1 c11
          obtain ⟨x_12, e12⟩ : ∃ z : Int, z = w32 (x2 + (-1)) := ⟨_, rfl⟩
          have h := h x_12 e12
          obtain ⟨v12, t12, g12⟩ : ∃ z : Int32, z.toInt = x_12 ∧ xv2 + Int32.ofInt (-1) = z := ⟨_, (ti_inc xt2 ⟨by decide, by decide⟩).trans e12.symm, rfl⟩
          refine lv_iinc (v := v12) (lv' := [(2, .int v12), (3, .int v3), (0, .ref (G.2.2 1034)), (1, .int xv1)]) C.1.1 C.1.2.1 dX0_markOverridesOf_53 hl (k := 3) rfl g12 (by decide) rfl (fun ls hl => ?_)
          refine lv_goto (tgt := 7) C.1.1 C.1.2.1 dX0_markOverridesOf_56 (by decide) ?_
          exact hP7 t12 hw hS (lv_sub hl [2, 3, 0] rfl) h
        · have h := h.2 c11
          exact uX0_markOverridesOf_44 C hw hS xt1 xt2 t4 (lv_sub hl [1, 2, 3, 0] rfl) hP7 h
set_option maxHeartbeats 4000000 in
set_option maxRecDepth 10000 in
theorem uX0_markOverridesOf_7 {p : Program} {l : Launch} {e : Env} {s : State} {m : MethodId} {args : Array Value} {below : List Frame} {meth : Method} {c : Code} {G : GG} {SB : St} (C : Cx p s m args meth c G RX0 cX0_markOverridesOf 4 none) {S : St} {H : Heap} {locs : List Loc} {ls : Array Slot}  {k : St → Prop} (hw : Wd G ((injC SB) S) H) (hS : va_S (AG G) s.heap H locs) {xv1 : Int32} {x1 : Int} (xt1 : xv1.toInt = x1) {xv2 : Int32} {x2 : Int} (xt2 : xv2.toInt = x2) (hl : lv_has ls 4 [(0, .ref (G.2.2 1034)), (1, .int xv1), (2, .int xv2)])  (h : wX0_markOverridesOf_7 S x1 x2 k) : W p l e (rmF 2 45) s m args below meth c H locs 0 0 (MQ below (QcV G (injC SB) k) args s 0 0 (AG G)) (F0 m 7 ls []) := by
  have key : ∀ (n : Nat) {H : Heap} {locs : List Loc} {ls : Array Slot} {S : St} {xv2 : Int32} {x2 : Int}, xv2.toInt = x2 → Wd G ((injC SB) S) H → va_S (AG G) s.heap H locs → lv_has ls 4 [(0, .ref (G.2.2 1034)), (1, .int xv1), (2, .int xv2)] → itP (fun (P : Int × St → Prop) (a : Int × St) => wX0_markOverridesOf_7_b a.2 x1 a.1 (fun b0 b1 => P (b0, b1)) k) n (x2, S) → W p l e (rmF 2 45) s m args below meth c H locs 0 0 (MQ below (QcV G (injC SB) k) args s 0 0 (AG G)) (F0 m 7 ls []) := by
    intro n
    induction n with
    | zero => intro H locs ls S xv2 x2 xt2 hw hS hl h; exact h.elim
    | succ n ih =>
      intro H locs ls S xv2 x2 xt2 hw hS hl h
      exact uX0_markOverridesOf_7_b C hw hS xt1 xt2 hl  (P7 := fun b0 b1 => itP _ n (b0, b1)) (fun q0 hw hS hl h => ih q0 hw hS hl h) h
  obtain ⟨n, hn⟩ := h
  exact key n xt2 hw hS hl hn
set_option maxHeartbeats 4000000 in
set_option maxRecDepth 10000 in
theorem uX0_markOverridesOf_0 {p : Program} {l : Launch} {e : Env} {s : State} {m : MethodId} {args : Array Value} {below : List Frame} {meth : Method} {c : Code} {G : GG} {SB : St} (C : Cx p s m args meth c G RX0 cX0_markOverridesOf 4 none) {S : St} {H : Heap} {locs : List Loc} {ls : Array Slot}  {k : St → Prop} (hw : Wd G ((injC SB) S) H) (hS : va_S (AG G) s.heap H locs) {xv1 : Int32} {x1 : Int} (xt1 : xv1.toInt = x1) (hl : lv_has ls 4 [(0, .ref (G.2.2 1034)), (1, .int xv1)])  (h : wX0_markOverridesOf_0 S x1 k) : W p l e (rmF 2 45) s m args below meth c H locs 0 0 (MQ below (QcV G (injC SB) k) args s 0 0 (AG G)) (F0 m 0 ls []) := by
  refine lv_aload_n C.1.1 C.1.2.1 dX0_markOverridesOf_0 rfl (lv_at hl 0 rfl) ?_
  refine y_getI C fl_X0_126 hw (ock_0 SB) rfl dX0_markOverridesOf_1 (fun v1 t1 => ?_)
  refine y_iconst C dX0_markOverridesOf_4 ⟨by decide, by decide⟩ (fun v2 t2 => ?_)
  refine y_isub C t1 t2 dX0_markOverridesOf_5 (fun v3 t3 => ?_)
  obtain ⟨x_4, e4⟩ : ∃ z : Int, z = w32 ((S 1034 4) - 1) := ⟨_, rfl⟩
  have h := h x_4 e4
  have t4 := t3.trans e4.symm
  refine lv_istore_n (lv' := [(2, .int v3), (0, .ref (G.2.2 1034)), (1, .int xv1)]) C.1.1 C.1.2.1 dX0_markOverridesOf_6 rfl hl (by decide) rfl (fun ls hl => ?_)
  exact uX0_markOverridesOf_7 C hw hS xt1 t4 (lv_sub hl [1, 2, 0] rfl)  h
theorem kX0_markOverridesOf (l : Launch) (G : GG) (SB S : St) {xv1 : Int32} {x1 : Int} (xt1 : xv1.toInt = x1) {k : St → Prop} (h : wX0_markOverridesOf S x1 k) : CnV l yX0_markOverridesOf cX0_markOverridesOf 4 none 2 45 G (injC SB) [.ref (G.2.2 1034), .int xv1] S k :=
  cn_body (by decide +kernel) (Nat.le_of_ble_eq_true rfl) (fun p e s m args below meth c ls C hw hl => uX0_markOverridesOf_0 C hw va_S.rf xt1 (lv_sub hl [0, 1] rfl) h)
set_option maxHeartbeats 4000000 in
set_option maxRecDepth 10000 in
theorem uX0_markOverrides_8_b {p : Program} {l : Launch} {e : Env} {s : State} {m : MethodId} {args : Array Value} {below : List Frame} {meth : Method} {c : Code} {G : GG} {SB : St} (C : Cx p s m args meth c G RX0 cX0_markOverrides 2 none) {S : St} {H : Heap} {locs : List Loc} {ls : Array Slot}  {P8 : Int → St → Prop} {k : St → Prop} (hw : Wd G ((injC SB) S) H) (hS : va_S (AG G) s.heap H locs) {xv1 : Int32} {x1 : Int} (xt1 : xv1.toInt = x1) (hl : lv_has ls 2 [(0, .ref (G.2.2 1034)), (1, .int xv1)])  (hP8 : ∀ {H : Heap} {locs : List Loc} {ls : Array Slot} {Sy : St} {yv1 : Int32} {y1 : Int}, yv1.toInt = y1 → Wd G ((injC SB) Sy) H → va_S (AG G) s.heap H locs → lv_has ls 2 [(0, .ref (G.2.2 1034)), (1, .int yv1)] → P8 y1 Sy → W p l e (rmF 3 68) s m args below meth c H locs 0 0 (MQ below (QcV G (injC SB) k) args s 0 0 (AG G)) (F0 m 8 ls [])) (h : wX0_markOverrides_8_b S x1 P8 k) : W p l e (rmF 3 68) s m args below meth c H locs 0 0 (MQ below (QcV G (injC SB) k) args s 0 0 (AG G)) (F0 m 8 ls []) := by
  refine lv_iload_n C.1.1 C.1.2.1 dX0_markOverrides_8 rfl (lv_at hl 1 rfl) ?_
  refine lv_aload_n C.1.1 C.1.2.1 dX0_markOverrides_9 rfl (lv_at hl 0 rfl) ?_
  obtain ⟨x_1, e1⟩ : ∃ z : Int, z = S 1034 0 := ⟨_, rfl⟩
  obtain ⟨o1, h⟩ := h x_1 e1
  refine y_getO C fl_X0_18 hw (ock_0 SB) rfl e1 o1 dX0_markOverrides_10 ?_
  refine y_getI C fl_X0_63 hw (oc_of SB o1) rfl dX0_markOverrides_13 (fun v2 t2 => ?_)
  refine y_icmp_ge C xt1 t2 dX0_markOverrides_16 (tgt := 45) (by decide) (fun c3 => ?_) (fun c3 => ?_)
  · have h := h.1 c3
    exact y_vret C hw hS h dX0_markOverrides_45
  · have h := h.2 c3
    refine lv_aload_n C.1.1 C.1.2.1 dX0_markOverrides_19 rfl (lv_at hl 0 rfl) ?_
    obtain ⟨x_4, e4⟩ : ∃ z : Int, z = S 1034 0 := ⟨_, rfl⟩
    obtain ⟨o4, h⟩ := h x_4 e4
    refine y_getO C fl_X0_18 hw (ock_0 SB) rfl e4 o4 dX0_markOverrides_20 ?_
    refine y_getA C fl_X0_66 hw (oc_of SB o4) rfl (o := 2) rfl dX0_markOverrides_23 ?_
    refine lv_iload_n C.1.1 C.1.2.1 dX0_markOverrides_26 rfl (lv_at hl 1 rfl) ?_
    obtain ⟨b6, h⟩ := h
    obtain ⟨x_6, e6⟩ : ∃ z : Int, z = x_4 + 150 + 3 * x1 := ⟨_, rfl⟩
    have h := h x_6 e6
    have o6 : isO 3 x_6 := isO_mb o4 b6 e6
    refine y_mbO C hw o4 xt1 b6 e6 dX0_markOverrides_27 ?_
    refine y_cVIp C (As := []) (rest := []) ml_X0_132 (kX3_isFree l G SB S o6 h) (oc_of SB o6) (T := TX3) (N := 8) rfl (by decide) ⟨(Nat.le_of_ble_eq_true rfl), (Nat.le_of_ble_eq_true rfl)⟩ hl.1 rfl rfl (Nat.le_of_ble_eq_true rfl) hw hS dX0_markOverrides_28 (fun v7 x_7 H locs t7 h hw hS => ?_)
    refine y_if_eq C t7 dX0_markOverrides_31 (tgt := 39) (by decide) (fun c8 => ?_) (fun c8 => ?_)
    · have h := h.1 c8
      obtain ⟨x_9, e9⟩ : ∃ z : Int, z = w32 (x1 + 1) := ⟨_, rfl⟩
      have h := h x_9 e9
      obtain ⟨v9, t9, g9⟩ : ∃ z : Int32, z.toInt = x_9 ∧ xv1 + Int32.ofInt 1 = z := ⟨_, (ti_inc xt1 ⟨by decide, by decide⟩).trans e9.symm, rfl⟩
      refine lv_iinc (v := v9) (lv' := [(1, .int v9), (0, .ref (G.2.2 1034))]) C.1.1 C.1.2.1 dX0_markOverrides_39 hl (k := 1) rfl g9 (by decide) rfl (fun ls hl => ?_)
      refine lv_goto (tgt := 8) C.1.1 C.1.2.1 dX0_markOverrides_42 (by decide) ?_
      exact hP8 t9 hw hS (lv_sub hl [1, 0] rfl) h
    · have h := h.2 c8
      refine lv_aload_n C.1.1 C.1.2.1 dX0_markOverrides_34 rfl (lv_at hl 0 rfl) ?_
      refine lv_iload_n C.1.1 C.1.2.1 dX0_markOverrides_35 rfl (lv_at hl 1 rfl) ?_
      refine y_cVV C (As := [.int xv1]) (rest := []) ml_X0_139 (kX0_markOverridesOf l G SB S xt1 h) (ock_0 SB) (T := TX0) (N := 5) rfl (by decide) ⟨(Nat.le_of_ble_eq_true rfl), (Nat.le_of_ble_eq_true rfl)⟩ hl.1 rfl rfl (Nat.le_of_ble_eq_true rfl) hw hS dX0_markOverrides_36 (fun S_10 H locs h hw hS => ?_)
      obtain ⟨x_11, e11⟩ : ∃ z : Int, z = w32 (x1 + 1) := ⟨_, rfl⟩
      have h := h x_11 e11
      obtain ⟨v11, t11, g11⟩ : ∃ z : Int32, z.toInt = x_11 ∧ xv1 + Int32.ofInt 1 = z := ⟨_, (ti_inc xt1 ⟨by decide, by decide⟩).trans e11.symm, rfl⟩
      refine lv_iinc (v := v11) (lv' := [(1, .int v11), (0, .ref (G.2.2 1034))]) C.1.1 C.1.2.1 dX0_markOverrides_39 hl (k := 1) rfl g11 (by decide) rfl (fun ls hl => ?_)
      refine lv_goto (tgt := 8) C.1.1 C.1.2.1 dX0_markOverrides_42 (by decide) ?_
      exact hP8 t11 hw hS (lv_sub hl [1, 0] rfl) h
set_option maxHeartbeats 4000000 in
set_option maxRecDepth 10000 in
theorem uX0_markOverrides_8 {p : Program} {l : Launch} {e : Env} {s : State} {m : MethodId} {args : Array Value} {below : List Frame} {meth : Method} {c : Code} {G : GG} {SB : St} (C : Cx p s m args meth c G RX0 cX0_markOverrides 2 none) {S : St} {H : Heap} {locs : List Loc} {ls : Array Slot}  {k : St → Prop} (hw : Wd G ((injC SB) S) H) (hS : va_S (AG G) s.heap H locs) {xv1 : Int32} {x1 : Int} (xt1 : xv1.toInt = x1) (hl : lv_has ls 2 [(0, .ref (G.2.2 1034)), (1, .int xv1)])  (h : wX0_markOverrides_8 S x1 k) : W p l e (rmF 3 68) s m args below meth c H locs 0 0 (MQ below (QcV G (injC SB) k) args s 0 0 (AG G)) (F0 m 8 ls []) := by
  have key : ∀ (n : Nat) {H : Heap} {locs : List Loc} {ls : Array Slot} {S : St} {xv1 : Int32} {x1 : Int}, xv1.toInt = x1 → Wd G ((injC SB) S) H → va_S (AG G) s.heap H locs → lv_has ls 2 [(0, .ref (G.2.2 1034)), (1, .int xv1)] → itP (fun (P : Int × St → Prop) (a : Int × St) => wX0_markOverrides_8_b a.2 a.1 (fun b0 b1 => P (b0, b1)) k) n (x1, S) → W p l e (rmF 3 68) s m args below meth c H locs 0 0 (MQ below (QcV G (injC SB) k) args s 0 0 (AG G)) (F0 m 8 ls []) := by
    intro n
    induction n with
    | zero => intro H locs ls S xv1 x1 xt1 hw hS hl h; exact h.elim
    | succ n ih =>
      intro H locs ls S xv1 x1 xt1 hw hS hl h
      exact uX0_markOverrides_8_b C hw hS xt1 hl  (P8 := fun b0 b1 => itP _ n (b0, b1)) (fun q0 hw hS hl h => ih q0 hw hS hl h) h
  obtain ⟨n, hn⟩ := h
  exact key n xt1 hw hS hl hn
set_option maxHeartbeats 4000000 in
set_option maxRecDepth 10000 in
theorem uX0_markOverrides_0 {p : Program} {l : Launch} {e : Env} {s : State} {m : MethodId} {args : Array Value} {below : List Frame} {meth : Method} {c : Code} {G : GG} {SB : St} (C : Cx p s m args meth c G RX0 cX0_markOverrides 2 none) {S : St} {H : Heap} {locs : List Loc} {ls : Array Slot}  {k : St → Prop} (hw : Wd G ((injC SB) S) H) (hS : va_S (AG G) s.heap H locs)  (hl : lv_has ls 2 [(0, .ref (G.2.2 1034))])  (h : wX0_markOverrides_0 S k) : W p l e (rmF 3 68) s m args below meth c H locs 0 0 (MQ below (QcV G (injC SB) k) args s 0 0 (AG G)) (F0 m 0 ls []) := by
  refine lv_aload_n C.1.1 C.1.2.1 dX0_markOverrides_0 rfl (lv_at hl 0 rfl) ?_
  obtain ⟨x_1, e1⟩ : ∃ z : Int, z = S 1034 1 := ⟨_, rfl⟩
  obtain ⟨o1, h⟩ := h x_1 e1
  refine y_getO C fl_X0_28 hw (ock_0 SB) rfl e1 o1 dX0_markOverrides_1 ?_
  refine y_getI C fl_X0_57 hw (oc_of SB o1) rfl dX0_markOverrides_4 (fun v2 t2 => ?_)
  obtain ⟨x_3, e3⟩ : ∃ z : Int, z = S x_1 16 := ⟨_, rfl⟩
  have h := h x_3 e3
  have t3 := t2.trans e3.symm
  refine lv_istore_n (lv' := [(1, .int v2), (0, .ref (G.2.2 1034))]) C.1.1 C.1.2.1 dX0_markOverrides_7 rfl hl (by decide) rfl (fun ls hl => ?_)
  exact uX0_markOverrides_8 C hw hS t3 (lv_sub hl [1, 0] rfl)  h
theorem kX0_markOverrides (l : Launch) (G : GG) (SB S : St)  {k : St → Prop} (h : wX0_markOverrides S k) : CnV l yX0_markOverrides cX0_markOverrides 2 none 3 68 G (injC SB) [.ref (G.2.2 1034)] S k :=
  cn_body (by decide +kernel) (Nat.le_of_ble_eq_true rfl) (fun p e s m args below meth c ls C hw hl => uX0_markOverrides_0 C hw va_S.rf  (lv_sub hl [0] rfl) h)
set_option maxHeartbeats 4000000 in
set_option maxRecDepth 10000 in
theorem uX0_standsFor_0 {p : Program} {l : Launch} {e : Env} {s : State} {m : MethodId} {args : Array Value} {below : List Frame} {meth : Method} {c : Code} {G : GG} {SB : St} (C : Cx p s m args meth c G RX0 cX0_standsFor 3 (some .boolean)) {S : St} {H : Heap} {locs : List Loc} {ls : Array Slot}  {k : Int → Prop} (hw : Wd G ((injC SB) S) H) (hS : va_S (AG G) s.heap H locs) {xv1 : Int32} {x1 : Int} (xt1 : xv1.toInt = x1) {xv2 : Int32} {x2 : Int} (xt2 : xv2.toInt = x2) (hl : lv_has ls 3 [(0, .ref (G.2.2 1034)), (1, .int xv1), (2, .int xv2)])  (h : wX0_standsFor_0 S x1 x2 k) : W p l e (rmF 2 44) s m args below meth c H locs 0 0 (MQ below (QcI G (injC SB) (fun r u => k r ∧ u = S)) args s 0 0 (AG G)) (F0 m 0 ls []) := by
  refine lv_aload_n C.1.1 C.1.2.1 dX0_standsFor_0 rfl (lv_at hl 0 rfl) ?_
  refine lv_iload_n C.1.1 C.1.2.1 dX0_standsFor_1 rfl (lv_at hl 2 rfl) ?_
  refine y_cVIp C (As := [.int xv2]) (rest := []) ml_X0_129 (kX0_isAbove l G SB S xt2 h) (ock_0 SB) (T := TX0) (N := 5) rfl (by decide) ⟨(Nat.le_of_ble_eq_true rfl), (Nat.le_of_ble_eq_true rfl)⟩ hl.1 rfl rfl (Nat.le_of_ble_eq_true rfl) hw hS dX0_standsFor_2 (fun v1 x_1 H locs t1 h hw hS => ?_)
  refine y_if_eq C t1 dX0_standsFor_5 (tgt := 47) (by decide) (fun c2 => ?_) (fun c2 => ?_)
  · have h := h.1 c2
    refine y_iconst C dX0_standsFor_47 ⟨by decide, by decide⟩ (fun v3 t3 => ?_)
    exact y_zret C hw hS t3 (Or.inl rfl) ⟨h, rfl⟩ dX0_standsFor_48
  · have h := h.2 c2
    refine lv_aload_n C.1.1 C.1.2.1 dX0_standsFor_8 rfl (lv_at hl 0 rfl) ?_
    refine lv_iload_n C.1.1 C.1.2.1 dX0_standsFor_9 rfl (lv_at hl 1 rfl) ?_
    refine lv_iload_n C.1.1 C.1.2.1 dX0_standsFor_10 rfl (lv_at hl 2 rfl) ?_
    refine y_cVIp C (As := [.int xv1, .int xv2]) (rest := []) ml_X0_143 (kX0_isAlike l G SB S xt1 xt2 h) (ock_0 SB) (T := TX0) (N := 5) rfl (by decide) ⟨(Nat.le_of_ble_eq_true rfl), (Nat.le_of_ble_eq_true rfl)⟩ hl.1 rfl rfl (Nat.le_of_ble_eq_true rfl) hw hS dX0_standsFor_11 (fun v4 x_4 H locs t4 h hw hS => ?_)
    refine y_if_eq C t4 dX0_standsFor_14 (tgt := 47) (by decide) (fun c5 => ?_) (fun c5 => ?_)
    · have h := h.1 c5
      refine y_iconst C dX0_standsFor_47 ⟨by decide, by decide⟩ (fun v6 t6 => ?_)
      exact y_zret C hw hS t6 (Or.inl rfl) ⟨h, rfl⟩ dX0_standsFor_48
    · have h := h.2 c5
      refine lv_aload_n C.1.1 C.1.2.1 dX0_standsFor_17 rfl (lv_at hl 0 rfl) ?_
      obtain ⟨x_7, e7⟩ : ∃ z : Int, z = S 1034 0 := ⟨_, rfl⟩
      obtain ⟨o7, h⟩ := h x_7 e7
      refine y_getO C fl_X0_18 hw (ock_0 SB) rfl e7 o7 dX0_standsFor_18 ?_
      refine y_getA C fl_X0_66 hw (oc_of SB o7) rfl (o := 2) rfl dX0_standsFor_21 ?_
      refine lv_iload_n C.1.1 C.1.2.1 dX0_standsFor_24 rfl (lv_at hl 1 rfl) ?_
      obtain ⟨b9, h⟩ := h
      obtain ⟨x_9, e9⟩ : ∃ z : Int, z = x_7 + 150 + 3 * x1 := ⟨_, rfl⟩
      have h := h x_9 e9
      have o9 : isO 3 x_9 := isO_mb o7 b9 e9
      refine y_mbO C hw o7 xt1 b9 e9 dX0_standsFor_25 ?_
      refine y_cVIp C (As := []) (rest := []) ml_X0_171 (kX3_isOwn l G SB S o9 h) (oc_of SB o9) (T := TX3) (N := 8) rfl (by decide) ⟨(Nat.le_of_ble_eq_true rfl), (Nat.le_of_ble_eq_true rfl)⟩ hl.1 rfl rfl (Nat.le_of_ble_eq_true rfl) hw hS dX0_standsFor_26 (fun v10 x_10 H locs t10 h hw hS => ?_)
      refine y_if_ne C t10 dX0_standsFor_29 (tgt := 47) (by decide) (fun c11 => ?_) (fun c11 => ?_)
      · have h := h.1 c11
        refine y_iconst C dX0_standsFor_47 ⟨by decide, by decide⟩ (fun v12 t12 => ?_)
        exact y_zret C hw hS t12 (Or.inl rfl) ⟨h, rfl⟩ dX0_standsFor_48
      · have h := h.2 c11
        refine lv_aload_n C.1.1 C.1.2.1 dX0_standsFor_32 rfl (lv_at hl 0 rfl) ?_
        obtain ⟨x_13, e13⟩ : ∃ z : Int, z = S 1034 0 := ⟨_, rfl⟩
        obtain ⟨o13, h⟩ := h x_13 e13
        refine y_getO C fl_X0_18 hw (ock_0 SB) rfl e13 o13 dX0_standsFor_33 ?_
        refine y_getA C fl_X0_66 hw (oc_of SB o13) rfl (o := 2) rfl dX0_standsFor_36 ?_
        refine lv_iload_n C.1.1 C.1.2.1 dX0_standsFor_39 rfl (lv_at hl 2 rfl) ?_
        obtain ⟨b15, h⟩ := h
        obtain ⟨x_15, e15⟩ : ∃ z : Int, z = x_13 + 150 + 3 * x2 := ⟨_, rfl⟩
        have h := h x_15 e15
        have o15 : isO 3 x_15 := isO_mb o13 b15 e15
        refine y_mbO C hw o13 xt2 b15 e15 dX0_standsFor_40 ?_
        refine y_cVIp C (As := []) (rest := []) ml_X0_171 (kX3_isOwn l G SB S o15 h) (oc_of SB o15) (T := TX3) (N := 8) rfl (by decide) ⟨(Nat.le_of_ble_eq_true rfl), (Nat.le_of_ble_eq_true rfl)⟩ hl.1 rfl rfl (Nat.le_of_ble_eq_true rfl) hw hS dX0_standsFor_41 (fun v16 x_16 H locs t16 h hw hS => ?_)
        refine y_if_eq C t16 dX0_standsFor_44 (tgt := 49) (by decide) (fun c17 => ?_) (fun c17 => ?_)
        · have h := h.1 c17
          refine lv_aload_n C.1.1 C.1.2.1 dX0_standsFor_49 rfl (lv_at hl 0 rfl) ?_
          refine lv_iload_n C.1.1 C.1.2.1 dX0_standsFor_50 rfl (lv_at hl 2 rfl) ?_
          refine y_cVIp C (As := [.int xv2]) (rest := []) ml_X0_146 (kX0_isWithinReach l G SB S xt2 h) (ock_0 SB) (T := TX0) (N := 5) rfl (by decide) ⟨(Nat.le_of_ble_eq_true rfl), (Nat.le_of_ble_eq_true rfl)⟩ hl.1 rfl rfl (Nat.le_of_ble_eq_true rfl) hw hS dX0_standsFor_51 (fun v18 x_18 H locs t18 h hw hS => ?_)
          refine y_if_ne C t18 dX0_standsFor_54 (tgt := 69) (by decide) (fun c19 => ?_) (fun c19 => ?_)
          · have h := h.1 c19
            refine y_iconst C dX0_standsFor_69 ⟨by decide, by decide⟩ (fun v20 t20 => ?_)
            refine lv_goto (tgt := 74) C.1.1 C.1.2.1 dX0_standsFor_70 (by decide) ?_
            exact y_zret C hw hS t20 (Or.inr rfl) ⟨h, rfl⟩ dX0_standsFor_74
          · have h := h.2 c19
            refine lv_aload_n C.1.1 C.1.2.1 dX0_standsFor_57 rfl (lv_at hl 0 rfl) ?_
            obtain ⟨x_21, e21⟩ : ∃ z : Int, z = S 1034 0 := ⟨_, rfl⟩
            obtain ⟨o21, h⟩ := h x_21 e21
            refine y_getO C fl_X0_18 hw (ock_0 SB) rfl e21 o21 dX0_standsFor_58 ?_
            refine lv_iload_n C.1.1 C.1.2.1 dX0_standsFor_61 rfl (lv_at hl 1 rfl) ?_
            refine lv_iload_n C.1.1 C.1.2.1 dX0_standsFor_62 rfl (lv_at hl 2 rfl) ?_
            refine y_cVIp C (As := [.int xv1, .int xv2]) (rest := []) ml_X0_162 (kX2_hasOverride l G SB S o21 xt1 xt2 h) (oc_of SB o21) (T := TX2) (N := 9) rfl (by decide) ⟨(Nat.le_of_ble_eq_true rfl), (Nat.le_of_ble_eq_true rfl)⟩ hl.1 rfl rfl (Nat.le_of_ble_eq_true rfl) hw hS dX0_standsFor_63 (fun v22 x_22 H locs t22 h hw hS => ?_)
            refine y_if_eq C t22 dX0_standsFor_66 (tgt := 73) (by decide) (fun c23 => ?_) (fun c23 => ?_)
            · have h := h.1 c23
              refine y_iconst C dX0_standsFor_73 ⟨by decide, by decide⟩ (fun v24 t24 => ?_)
              exact y_zret C hw hS t24 (Or.inl rfl) ⟨h, rfl⟩ dX0_standsFor_74
            · have h := h.2 c23
              refine y_iconst C dX0_standsFor_69 ⟨by decide, by decide⟩ (fun v25 t25 => ?_)
              refine lv_goto (tgt := 74) C.1.1 C.1.2.1 dX0_standsFor_70 (by decide) ?_
              exact y_zret C hw hS t25 (Or.inr rfl) ⟨h, rfl⟩ dX0_standsFor_74
        · have h := h.2 c17
          refine y_iconst C dX0_standsFor_47 ⟨by decide, by decide⟩ (fun v26 t26 => ?_)
          exact y_zret C hw hS t26 (Or.inl rfl) ⟨h, rfl⟩ dX0_standsFor_48
theorem kX0_standsFor (l : Launch) (G : GG) (SB S : St) {xv1 : Int32} {x1 : Int} (xt1 : xv1.toInt = x1) {xv2 : Int32} {x2 : Int} (xt2 : xv2.toInt = x2) {k : Int → Prop} (h : wX0_standsFor S x1 x2 k) : CnI l yX0_standsFor cX0_standsFor 3 (some .boolean) 2 44 G (injC SB) [.ref (G.2.2 1034), .int xv1, .int xv2] S (fun r u => k r ∧ u = S) :=
  cn_body (by decide +kernel) (Nat.le_of_ble_eq_true rfl) (fun p e s m args below meth c ls C hw hl => uX0_standsFor_0 C hw va_S.rf xt1 xt2 (lv_sub hl [0, 1, 2] rfl) h)
set_option maxHeartbeats 4000000 in
set_option maxRecDepth 10000 in
theorem uX0_resultSeen_0 {p : Program} {l : Launch} {e : Env} {s : State} {m : MethodId} {args : Array Value} {below : List Frame} {meth : Method} {c : Code} {G : GG} {SB : St} (C : Cx p s m args meth c G RX0 cX0_resultSeen 2 (some .int)) {S : St} {H : Heap} {locs : List Loc} {ls : Array Slot}  {k : Int → Prop} (hw : Wd G ((injC SB) S) H) (hS : va_S (AG G) s.heap H locs) {xv1 : Int32} {x1 : Int} (xt1 : xv1.toInt = x1) (hl : lv_has ls 2 [(0, .ref (G.2.2 1034)), (1, .int xv1)])  (h : wX0_resultSeen_0 S x1 k) : W p l e (rmF 0 0) s m args below meth c H locs 0 0 (MQ below (QcI G (injC SB) (fun r u => k r ∧ u = S)) args s 0 0 (AG G)) (F0 m 0 ls []) := by
  refine lv_aload_n C.1.1 C.1.2.1 dX0_resultSeen_0 rfl (lv_at hl 0 rfl) ?_
  refine y_getA C fl_X0_9 hw (ock_0 SB) rfl (o := 1) rfl dX0_resultSeen_1 ?_
  refine lv_iload_n C.1.1 C.1.2.1 dX0_resultSeen_4 rfl (lv_at hl 1 rfl) ?_
  refine y_iconst C dX0_resultSeen_5 ⟨by decide, by decide⟩ (fun v2 t2 => ?_)
  refine y_imul C xt1 t2 dX0_resultSeen_6 (fun v3 t3 => ?_)
  refine y_iconst C dX0_resultSeen_7 ⟨by decide, by decide⟩ (fun v4 t4 => ?_)
  refine y_iadd C t3 t4 dX0_resultSeen_8 (fun v5 t5 => ?_)
  obtain ⟨b6, h⟩ := h
  refine y_iald C hw (ack_0_2 SB) t5 b6 dX0_resultSeen_9 (fun v6 t6 => ?_)
  exact y_iret C hw hS t6 ⟨h, rfl⟩ dX0_resultSeen_10
theorem kX0_resultSeen (l : Launch) (G : GG) (SB S : St) {xv1 : Int32} {x1 : Int} (xt1 : xv1.toInt = x1) {k : Int → Prop} (h : wX0_resultSeen S x1 k) : CnI l yX0_resultSeen cX0_resultSeen 2 (some .int) 0 0 G (injC SB) [.ref (G.2.2 1034), .int xv1] S (fun r u => k r ∧ u = S) :=
  cn_body (by decide +kernel) (Nat.le_of_ble_eq_true rfl) (fun p e s m args below meth c ls C hw hl => uX0_resultSeen_0 C hw va_S.rf xt1 (lv_sub hl [0, 1] rfl) h)
set_option maxHeartbeats 4000000 in
set_option maxRecDepth 10000 in
theorem uX0_isNarrow_49 {p : Program} {l : Launch} {e : Env} {s : State} {m : MethodId} {args : Array Value} {below : List Frame} {meth : Method} {c : Code} {G : GG} {SB : St} (C : Cx p s m args meth c G RX0 cX0_isNarrow 5 (some .boolean)) {S : St} {H : Heap} {locs : List Loc} {ls : Array Slot}  {k : Int → Prop} (hw : Wd G ((injC SB) S) H) (hS : va_S (AG G) s.heap H locs) {xv2 : Int32} {x2 : Int} (xt2 : xv2.toInt = x2) {xv3 : Int32} {x3 : Int} (xt3 : xv3.toInt = x3) {sv0 : Int32} {s0 : Int} (st0 : sv0.toInt = s0) (hl : lv_has ls 5 [(0, .ref (G.2.2 1034)), (2, .int xv2), (3, .int xv3)])  (h : wX0_isNarrow_49 S x2 x3 s0 k) : W p l e (rmF 1 22) s m args below meth c H locs 0 0 (MQ below (QcI G (injC SB) (fun r u => k r ∧ u = S)) args s 0 0 (AG G)) (F0 m 49 ls [.int sv0]) := by
  refine lv_istore (lv' := [(4, .int sv0), (0, .ref (G.2.2 1034)), (2, .int xv2), (3, .int xv3)]) C.1.1 C.1.2.1 dX0_isNarrow_49 hl (by decide) rfl (fun ls hl => ?_)
  refine lv_iload C.1.1 C.1.2.1 dX0_isNarrow_51 (lv_at hl 0 rfl) ?_
  refine y_if_eq C st0 dX0_isNarrow_53 (tgt := 72) (by decide) (fun c1 => ?_) (fun c1 => ?_)
  · have h := h.1 c1
    refine y_iconst C dX0_isNarrow_72 ⟨by decide, by decide⟩ (fun v2 t2 => ?_)
    exact y_zret C hw hS t2 (Or.inl rfl) ⟨h, rfl⟩ dX0_isNarrow_73
  · have h := h.2 c1
    refine lv_aload_n C.1.1 C.1.2.1 dX0_isNarrow_56 rfl (lv_at hl 1 rfl) ?_
    obtain ⟨x_3, e3⟩ : ∃ z : Int, z = S 1034 0 := ⟨_, rfl⟩
    obtain ⟨o3, h⟩ := h x_3 e3
    refine y_getO C fl_X0_18 hw (ock_0 SB) rfl e3 o3 dX0_isNarrow_57 ?_
    refine lv_iload_n C.1.1 C.1.2.1 dX0_isNarrow_60 rfl (lv_at hl 3 rfl) ?_
    refine lv_iload_n C.1.1 C.1.2.1 dX0_isNarrow_61 rfl (lv_at hl 2 rfl) ?_
    refine y_cVIp C (As := [.int xv3, .int xv2]) (rest := []) ml_X0_118 (kX2_isUnder l G SB S o3 xt3 xt2 h) (oc_of SB o3) (T := TX2) (N := 9) rfl (by decide) ⟨(Nat.le_of_ble_eq_true rfl), (Nat.le_of_ble_eq_true rfl)⟩ hl.1 rfl rfl (Nat.le_of_ble_eq_true rfl) hw hS dX0_isNarrow_62 (fun v4 x_4 H locs t4 h hw hS => ?_)
    refine y_if_eq C t4 dX0_isNarrow_65 (tgt := 72) (by decide) (fun c5 => ?_) (fun c5 => ?_)
    · have h := h.1 c5
      refine y_iconst C dX0_isNarrow_72 ⟨by decide, by decide⟩ (fun v6 t6 => ?_)
      exact y_zret C hw hS t6 (Or.inl rfl) ⟨h, rfl⟩ dX0_isNarrow_73
    · have h := h.2 c5
      refine y_iconst C dX0_isNarrow_68 ⟨by decide, by decide⟩ (fun v7 t7 => ?_)
      refine lv_goto (tgt := 73) C.1.1 C.1.2.1 dX0_isNarrow_69 (by decide) ?_
      exact y_zret C hw hS t7 (Or.inr rfl) ⟨h, rfl⟩ dX0_isNarrow_73
set_option maxHeartbeats 4000000 in
set_option maxRecDepth 10000 in
theorem uX0_isNarrow_48 {p : Program} {l : Launch} {e : Env} {s : State} {m : MethodId} {args : Array Value} {below : List Frame} {meth : Method} {c : Code} {G : GG} {SB : St} (C : Cx p s m args meth c G RX0 cX0_isNarrow 5 (some .boolean)) {S : St} {H : Heap} {locs : List Loc} {ls : Array Slot}  {k : Int → Prop} (hw : Wd G ((injC SB) S) H) (hS : va_S (AG G) s.heap H locs) {xv2 : Int32} {x2 : Int} (xt2 : xv2.toInt = x2) {xv3 : Int32} {x3 : Int} (xt3 : xv3.toInt = x3) (hl : lv_has ls 5 [(0, .ref (G.2.2 1034)), (2, .int xv2), (3, .int xv3)])  (h : wX0_isNarrow_48 S x2 x3 k) : W p l e (rmF 1 22) s m args below meth c H locs 0 0 (MQ below (QcI G (injC SB) (fun r u => k r ∧ u = S)) args s 0 0 (AG G)) (F0 m 48 ls []) := by
  refine y_iconst C dX0_isNarrow_48 ⟨by decide, by decide⟩ (fun v1 t1 => ?_)
  exact uX0_isNarrow_49 C hw hS xt2 xt3 t1 (lv_sub hl [0, 1, 2] rfl)  h
set_option maxHeartbeats 4000000 in
set_option maxRecDepth 10000 in
theorem uX0_isNarrow_29 {p : Program} {l : Launch} {e : Env} {s : State} {m : MethodId} {args : Array Value} {below : List Frame} {meth : Method} {c : Code} {G : GG} {SB : St} (C : Cx p s m args meth c G RX0 cX0_isNarrow 5 (some .boolean)) {S : St} {H : Heap} {locs : List Loc} {ls : Array Slot}  {k : Int → Prop} (hw : Wd G ((injC SB) S) H) (hS : va_S (AG G) s.heap H locs) {xv2 : Int32} {x2 : Int} (xt2 : xv2.toInt = x2) {sv0 : Int32} {s0 : Int} (st0 : sv0.toInt = s0) (hl : lv_has ls 5 [(0, .ref (G.2.2 1034)), (2, .int xv2)])  (h : wX0_isNarrow_29 S x2 s0 k) : W p l e (rmF 1 22) s m args below meth c H locs 0 0 (MQ below (QcI G (injC SB) (fun r u => k r ∧ u = S)) args s 0 0 (AG G)) (F0 m 29 ls [.int sv0]) := by
  refine lv_istore_n (lv' := [(3, .int sv0), (0, .ref (G.2.2 1034)), (2, .int xv2)]) C.1.1 C.1.2.1 dX0_isNarrow_29 rfl hl (by decide) rfl (fun ls hl => ?_)
  refine lv_iload_n C.1.1 C.1.2.1 dX0_isNarrow_30 rfl (lv_at hl 0 rfl) ?_
  refine y_if_lt C st0 dX0_isNarrow_31 (tgt := 48) (by decide) (fun c1 => ?_) (fun c1 => ?_)
  · have h := h.1 c1
    exact uX0_isNarrow_48 C hw hS xt2 st0 (lv_sub hl [1, 2, 0] rfl)  h
  · have h := h.2 c1
    refine lv_iload_n C.1.1 C.1.2.1 dX0_isNarrow_34 rfl (lv_at hl 2 rfl) ?_
    refine y_if_lt C xt2 dX0_isNarrow_35 (tgt := 48) (by decide) (fun c2 => ?_) (fun c2 => ?_)
    · have h := h.1 c2
      exact uX0_isNarrow_48 C hw hS xt2 st0 (lv_sub hl [1, 2, 0] rfl)  h
    · have h := h.2 c2
      refine lv_iload_n C.1.1 C.1.2.1 dX0_isNarrow_38 rfl (lv_at hl 2 rfl) ?_
      refine y_bipush C dX0_isNarrow_39 ⟨by decide, by decide⟩ (fun v3 t3 => ?_)
      refine y_icmp_ge C xt2 t3 dX0_isNarrow_41 (tgt := 48) (by decide) (fun c4 => ?_) (fun c4 => ?_)
      · have h := h.1 c4
        exact uX0_isNarrow_48 C hw hS xt2 st0 (lv_sub hl [1, 2, 0] rfl)  h
      · have h := h.2 c4
        refine y_iconst C dX0_isNarrow_44 ⟨by decide, by decide⟩ (fun v5 t5 => ?_)
        refine lv_goto (tgt := 49) C.1.1 C.1.2.1 dX0_isNarrow_45 (by decide) ?_
        exact uX0_isNarrow_49 C hw hS xt2 st0 t5 (lv_sub hl [1, 2, 0] rfl)  h
set_option maxHeartbeats 4000000 in
set_option maxRecDepth 10000 in
theorem uX0_isNarrow_0 {p : Program} {l : Launch} {e : Env} {s : State} {m : MethodId} {args : Array Value} {below : List Frame} {meth : Method} {c : Code} {G : GG} {SB : St} (C : Cx p s m args meth c G RX0 cX0_isNarrow 5 (some .boolean)) {S : St} {H : Heap} {locs : List Loc} {ls : Array Slot}  {k : Int → Prop} (hw : Wd G ((injC SB) S) H) (hS : va_S (AG G) s.heap H locs) {xv1 : Int32} {x1 : Int} (xt1 : xv1.toInt = x1) {xv2 : Int32} {x2 : Int} (xt2 : xv2.toInt = x2) (hl : lv_has ls 5 [(0, .ref (G.2.2 1034)), (1, .int xv1), (2, .int xv2)])  (h : wX0_isNarrow_0 S x1 x2 k) : W p l e (rmF 1 22) s m args below meth c H locs 0 0 (MQ below (QcI G (injC SB) (fun r u => k r ∧ u = S)) args s 0 0 (AG G)) (F0 m 0 ls []) := by
  refine lv_iload_n C.1.1 C.1.2.1 dX0_isNarrow_0 rfl (lv_at hl 1 rfl) ?_
  refine lv_iload_n C.1.1 C.1.2.1 dX0_isNarrow_1 rfl (lv_at hl 2 rfl) ?_
  refine y_icmp_ne C xt1 xt2 dX0_isNarrow_2 (tgt := 7) (by decide) (fun c1 => ?_) (fun c1 => ?_)
  · have h := h.1 c1
    refine lv_iload_n C.1.1 C.1.2.1 dX0_isNarrow_7 rfl (lv_at hl 1 rfl) ?_
    refine y_bipush C dX0_isNarrow_8 ⟨by decide, by decide⟩ (fun v2 t2 => ?_)
    refine y_icmp_lt C xt1 t2 dX0_isNarrow_10 (tgt := 28) (by decide) (fun c3 => ?_) (fun c3 => ?_)
    · have h := h.1 c3
      refine lv_iload_n C.1.1 C.1.2.1 dX0_isNarrow_28 rfl (lv_at hl 1 rfl) ?_
      exact uX0_isNarrow_29 C hw hS xt2 xt1 (lv_sub hl [0, 2] rfl)  h
    · have h := h.2 c3
      refine lv_aload_n C.1.1 C.1.2.1 dX0_isNarrow_13 rfl (lv_at hl 0 rfl) ?_
      obtain ⟨x_4, e4⟩ : ∃ z : Int, z = S 1034 1 := ⟨_, rfl⟩
      obtain ⟨o4, h⟩ := h x_4 e4
      refine y_getO C fl_X0_28 hw (ock_0 SB) rfl e4 o4 dX0_isNarrow_14 ?_
      refine y_getA C fl_X0_184 hw (oc_of SB o4) rfl (o := 2) rfl dX0_isNarrow_17 ?_
      refine lv_iload_n C.1.1 C.1.2.1 dX0_isNarrow_20 rfl (lv_at hl 1 rfl) ?_
      refine y_bipush C dX0_isNarrow_21 ⟨by decide, by decide⟩ (fun v6 t6 => ?_)
      refine y_isub C xt1 t6 dX0_isNarrow_23 (fun v7 t7 => ?_)
      obtain ⟨b8, h⟩ := h
      refine y_iald C hw (ac_6_8 SB o4) t7 b8 dX0_isNarrow_24 (fun v8 t8 => ?_)
      refine lv_goto (tgt := 29) C.1.1 C.1.2.1 dX0_isNarrow_25 (by decide) ?_
      exact uX0_isNarrow_29 C hw hS xt2 t8 (lv_sub hl [0, 2] rfl)  h
  · have h := h.2 c1
    refine y_iconst C dX0_isNarrow_5 ⟨by decide, by decide⟩ (fun v9 t9 => ?_)
    exact y_zret C hw hS t9 (Or.inr rfl) ⟨h, rfl⟩ dX0_isNarrow_6
theorem kX0_isNarrow (l : Launch) (G : GG) (SB S : St) {xv1 : Int32} {x1 : Int} (xt1 : xv1.toInt = x1) {xv2 : Int32} {x2 : Int} (xt2 : xv2.toInt = x2) {k : Int → Prop} (h : wX0_isNarrow S x1 x2 k) : CnI l yX0_isNarrow cX0_isNarrow 5 (some .boolean) 1 22 G (injC SB) [.ref (G.2.2 1034), .int xv1, .int xv2] S (fun r u => k r ∧ u = S) :=
  cn_body (by decide +kernel) (Nat.le_of_ble_eq_true rfl) (fun p e s m args below meth c ls C hw hl => uX0_isNarrow_0 C hw va_S.rf xt1 xt2 (lv_sub hl [0, 1, 2] rfl) h)
set_option maxHeartbeats 4000000 in
set_option maxRecDepth 10000 in
theorem uX0_isWrong_0 {p : Program} {l : Launch} {e : Env} {s : State} {m : MethodId} {args : Array Value} {below : List Frame} {meth : Method} {c : Code} {G : GG} {SB : St} (C : Cx p s m args meth c G RX0 cX0_isWrong 5 (some .boolean)) {S : St} {H : Heap} {locs : List Loc} {ls : Array Slot}  {k : Int → Prop} (hw : Wd G ((injC SB) S) H) (hS : va_S (AG G) s.heap H locs) {xv1 : Int32} {x1 : Int} (xt1 : xv1.toInt = x1) {xv2 : Int32} {x2 : Int} (xt2 : xv2.toInt = x2) (hl : lv_has ls 5 [(0, .ref (G.2.2 1034)), (1, .int xv1), (2, .int xv2)])  (h : wX0_isWrong_0 S x1 x2 k) : W p l e (rmF 2 46) s m args below meth c H locs 0 0 (MQ below (QcI G (injC SB) (fun r u => k r ∧ u = S)) args s 0 0 (AG G)) (F0 m 0 ls []) := by
  refine lv_aload_n C.1.1 C.1.2.1 dX0_isWrong_0 rfl (lv_at hl 0 rfl) ?_
  obtain ⟨x_1, e1⟩ : ∃ z : Int, z = S 1034 0 := ⟨_, rfl⟩
  obtain ⟨o1, h⟩ := h x_1 e1
  refine y_getO C fl_X0_18 hw (ock_0 SB) rfl e1 o1 dX0_isWrong_1 ?_
  refine y_getA C fl_X0_66 hw (oc_of SB o1) rfl (o := 2) rfl dX0_isWrong_4 ?_
  refine lv_iload_n C.1.1 C.1.2.1 dX0_isWrong_7 rfl (lv_at hl 1 rfl) ?_
  obtain ⟨b3, h⟩ := h
  obtain ⟨x_3, e3⟩ : ∃ z : Int, z = x_1 + 150 + 3 * x1 := ⟨_, rfl⟩
  have h := h x_3 e3
  have o3 : isO 3 x_3 := isO_mb o1 b3 e3
  refine y_mbO C hw o1 xt1 b3 e3 dX0_isWrong_8 ?_
  refine lv_astore_n (lv' := [(3, .ref (G.2.2 (x_3).toNat)), (0, .ref (G.2.2 1034)), (1, .int xv1), (2, .int xv2)]) C.1.1 C.1.2.1 dX0_isWrong_9 rfl hl (by decide) rfl (fun ls hl => ?_)
  refine lv_aload_n C.1.1 C.1.2.1 dX0_isWrong_10 rfl (lv_at hl 1 rfl) ?_
  obtain ⟨x_4, e4⟩ : ∃ z : Int, z = S 1034 0 := ⟨_, rfl⟩
  obtain ⟨o4, h⟩ := h x_4 e4
  refine y_getO C fl_X0_18 hw (ock_0 SB) rfl e4 o4 dX0_isWrong_11 ?_
  refine y_getA C fl_X0_66 hw (oc_of SB o4) rfl (o := 2) rfl dX0_isWrong_14 ?_
  refine lv_iload_n C.1.1 C.1.2.1 dX0_isWrong_17 rfl (lv_at hl 3 rfl) ?_
  obtain ⟨b6, h⟩ := h
  obtain ⟨x_6, e6⟩ : ∃ z : Int, z = x_4 + 150 + 3 * x2 := ⟨_, rfl⟩
  have h := h x_6 e6
  have o6 : isO 3 x_6 := isO_mb o4 b6 e6
  refine y_mbO C hw o4 xt2 b6 e6 dX0_isWrong_18 ?_
  refine lv_astore (lv' := [(4, .ref (G.2.2 (x_6).toNat)), (3, .ref (G.2.2 (x_3).toNat)), (0, .ref (G.2.2 1034)), (1, .int xv1), (2, .int xv2)]) C.1.1 C.1.2.1 dX0_isWrong_19 hl (by decide) rfl (fun ls hl => ?_)
  refine lv_aload_n C.1.1 C.1.2.1 dX0_isWrong_21 rfl (lv_at hl 1 rfl) ?_
  refine y_cVIp C (As := []) (rest := []) ml_X0_174 (kX3_isStatic l G SB S o3 h) (oc_of SB o3) (T := TX3) (N := 8) rfl (by decide) ⟨(Nat.le_of_ble_eq_true rfl), (Nat.le_of_ble_eq_true rfl)⟩ hl.1 rfl rfl (Nat.le_of_ble_eq_true rfl) hw hS dX0_isWrong_22 (fun v7 x_7 H locs t7 h hw hS => ?_)
  refine lv_aload C.1.1 C.1.2.1 dX0_isWrong_25 (lv_at hl 0 rfl) ?_
  refine y_cVIp C (As := []) (rest := [.int v7]) ml_X0_174 (kX3_isStatic l G SB S o6 h) (oc_of SB o6) (T := TX3) (N := 8) rfl (by decide) ⟨(Nat.le_of_ble_eq_true rfl), (Nat.le_of_ble_eq_true rfl)⟩ hl.1 rfl rfl (Nat.le_of_ble_eq_true rfl) hw hS dX0_isWrong_27 (fun v8 x_8 H locs t8 h hw hS => ?_)
  refine y_icmp_ne C t7 t8 dX0_isWrong_30 (tgt := 62) (by decide) (fun c9 => ?_) (fun c9 => ?_)
  · have h := h.1 c9
    refine y_iconst C dX0_isWrong_62 ⟨by decide, by decide⟩ (fun v10 t10 => ?_)
    refine lv_goto (tgt := 67) C.1.1 C.1.2.1 dX0_isWrong_63 (by decide) ?_
    exact y_zret C hw hS t10 (Or.inr rfl) ⟨h, rfl⟩ dX0_isWrong_67
  · have h := h.2 c9
    refine lv_aload_n C.1.1 C.1.2.1 dX0_isWrong_33 rfl (lv_at hl 1 rfl) ?_
    refine y_getI C fl_X0_156 hw (oc_of SB o3) rfl dX0_isWrong_34 (fun v11 t11 => ?_)
    refine lv_aload C.1.1 C.1.2.1 dX0_isWrong_37 (lv_at hl 0 rfl) ?_
    refine y_getI C fl_X0_156 hw (oc_of SB o6) rfl dX0_isWrong_39 (fun v12 t12 => ?_)
    refine y_icmp_lt C t11 t12 dX0_isWrong_42 (tgt := 62) (by decide) (fun c13 => ?_) (fun c13 => ?_)
    · have h := h.1 c13
      refine y_iconst C dX0_isWrong_62 ⟨by decide, by decide⟩ (fun v14 t14 => ?_)
      refine lv_goto (tgt := 67) C.1.1 C.1.2.1 dX0_isWrong_63 (by decide) ?_
      exact y_zret C hw hS t14 (Or.inr rfl) ⟨h, rfl⟩ dX0_isWrong_67
    · have h := h.2 c13
      refine lv_aload_n C.1.1 C.1.2.1 dX0_isWrong_45 rfl (lv_at hl 2 rfl) ?_
      refine lv_aload_n C.1.1 C.1.2.1 dX0_isWrong_46 rfl (lv_at hl 2 rfl) ?_
      refine lv_iload_n C.1.1 C.1.2.1 dX0_isWrong_47 rfl (lv_at hl 3 rfl) ?_
      refine y_cVIp C (As := [.int xv1]) (rest := [.ref (G.2.2 1034)]) ml_X0_177 (kX0_resultSeen l G SB S xt1 h) (ock_0 SB) (T := TX0) (N := 5) rfl (by decide) ⟨(Nat.le_of_ble_eq_true rfl), (Nat.le_of_ble_eq_true rfl)⟩ hl.1 rfl rfl (Nat.le_of_ble_eq_true rfl) hw hS dX0_isWrong_48 (fun v15 x_15 H locs t15 h hw hS => ?_)
      refine lv_aload_n C.1.1 C.1.2.1 dX0_isWrong_51 rfl (lv_at hl 2 rfl) ?_
      refine lv_iload_n C.1.1 C.1.2.1 dX0_isWrong_52 rfl (lv_at hl 4 rfl) ?_
      refine y_cVIp C (As := [.int xv2]) (rest := [.int v15, .ref (G.2.2 1034)]) ml_X0_177 (kX0_resultSeen l G SB S xt2 h) (ock_0 SB) (T := TX0) (N := 5) rfl (by decide) ⟨(Nat.le_of_ble_eq_true rfl), (Nat.le_of_ble_eq_true rfl)⟩ hl.1 rfl rfl (Nat.le_of_ble_eq_true rfl) hw hS dX0_isWrong_53 (fun v16 x_16 H locs t16 h hw hS => ?_)
      refine y_cVIp C (As := [.int v15, .int v16]) (rest := []) ml_X0_181 (kX0_isNarrow l G SB S t15 t16 h) (ock_0 SB) (T := TX0) (N := 5) rfl (by decide) ⟨(Nat.le_of_ble_eq_true rfl), (Nat.le_of_ble_eq_true rfl)⟩ hl.1 rfl rfl (Nat.le_of_ble_eq_true rfl) hw hS dX0_isWrong_56 (fun v17 x_17 H locs t17 h hw hS => ?_)
      refine y_if_ne C t17 dX0_isWrong_59 (tgt := 66) (by decide) (fun c18 => ?_) (fun c18 => ?_)
      · have h := h.1 c18
        refine y_iconst C dX0_isWrong_66 ⟨by decide, by decide⟩ (fun v19 t19 => ?_)
        exact y_zret C hw hS t19 (Or.inl rfl) ⟨h, rfl⟩ dX0_isWrong_67
      · have h := h.2 c18
        refine y_iconst C dX0_isWrong_62 ⟨by decide, by decide⟩ (fun v20 t20 => ?_)
        refine lv_goto (tgt := 67) C.1.1 C.1.2.1 dX0_isWrong_63 (by decide) ?_
        exact y_zret C hw hS t20 (Or.inr rfl) ⟨h, rfl⟩ dX0_isWrong_67
theorem kX0_isWrong (l : Launch) (G : GG) (SB S : St) {xv1 : Int32} {x1 : Int} (xt1 : xv1.toInt = x1) {xv2 : Int32} {x2 : Int} (xt2 : xv2.toInt = x2) {k : Int → Prop} (h : wX0_isWrong S x1 x2 k) : CnI l yX0_isWrong cX0_isWrong 5 (some .boolean) 2 46 G (injC SB) [.ref (G.2.2 1034), .int xv1, .int xv2] S (fun r u => k r ∧ u = S) :=
  cn_body (by decide +kernel) (Nat.le_of_ble_eq_true rfl) (fun p e s m args below meth c ls C hw hl => uX0_isWrong_0 C hw va_S.rf xt1 xt2 (lv_sub hl [0, 1, 2] rfl) h)
set_option maxHeartbeats 4000000 in
set_option maxRecDepth 10000 in
theorem uX0_hasWrongOverride_21_b {p : Program} {l : Launch} {e : Env} {s : State} {m : MethodId} {args : Array Value} {below : List Frame} {meth : Method} {c : Code} {G : GG} {SB : St} (C : Cx p s m args meth c G RX0 cX0_hasWrongOverride 3 (some .boolean)) {S : St} {H : Heap} {locs : List Loc} {ls : Array Slot} {P8 : Int → Prop} {P21 : Int → Prop} {k : Int → Prop} (hw : Wd G ((injC SB) S) H) (hS : va_S (AG G) s.heap H locs) {xv1 : Int32} {x1 : Int} (xt1 : xv1.toInt = x1) {xv2 : Int32} {x2 : Int} (xt2 : xv2.toInt = x2) (hl : lv_has ls 3 [(0, .ref (G.2.2 1034)), (1, .int xv1), (2, .int xv2)]) (hP8 : ∀ {H : Heap} {locs : List Loc} {ls : Array Slot} {yv1 : Int32} {y1 : Int}, yv1.toInt = y1 → Wd G ((injC SB) S) H → va_S (AG G) s.heap H locs → lv_has ls 3 [(0, .ref (G.2.2 1034)), (1, .int yv1)] → P8 y1 → W p l e (rmF 3 70) s m args below meth c H locs 0 0 (MQ below (QcI G (injC SB) (fun r u => k r ∧ u = S)) args s 0 0 (AG G)) (F0 m 8 ls [])) (hP21 : ∀ {H : Heap} {locs : List Loc} {ls : Array Slot} {yv2 : Int32} {y2 : Int}, yv2.toInt = y2 → Wd G ((injC SB) S) H → va_S (AG G) s.heap H locs → lv_has ls 3 [(0, .ref (G.2.2 1034)), (1, .int xv1), (2, .int yv2)] → P21 y2 → W p l e (rmF 3 70) s m args below meth c H locs 0 0 (MQ below (QcI G (injC SB) (fun r u => k r ∧ u = S)) args s 0 0 (AG G)) (F0 m 21 ls [])) (h : wX0_hasWrongOverride_21_b S x1 x2 P8 P21 k) : W p l e (rmF 3 70) s m args below meth c H locs 0 0 (MQ below (QcI G (injC SB) (fun r u => k r ∧ u = S)) args s 0 0 (AG G)) (F0 m 21 ls []) := by
  refine lv_iload_n C.1.1 C.1.2.1 dX0_hasWrongOverride_21 rfl (lv_at hl 2 rfl) ?_
  refine lv_aload_n C.1.1 C.1.2.1 dX0_hasWrongOverride_22 rfl (lv_at hl 0 rfl) ?_
  obtain ⟨x_1, e1⟩ : ∃ z : Int, z = S 1034 1 := ⟨_, rfl⟩
  obtain ⟨o1, h⟩ := h x_1 e1
  refine y_getO C fl_X0_28 hw (ock_0 SB) rfl e1 o1 dX0_hasWrongOverride_23 ?_
  refine y_getI C fl_X0_57 hw (oc_of SB o1) rfl dX0_hasWrongOverride_26 (fun v2 t2 => ?_)
  refine y_icmp_ge C xt2 t2 dX0_hasWrongOverride_29 (tgt := 58) (by decide) (fun c3 => ?_) (fun c3 => ?_)
  · have h := h.1 c3
    obtain ⟨x_4, e4⟩ : ∃ z : Int, z = w32 (x1 + 1) := ⟨_, rfl⟩
    have h := h x_4 e4
    obtain ⟨v4, t4, g4⟩ : ∃ z : Int32, z.toInt = x_4 ∧ xv1 + Int32.ofInt 1 = z := ⟨_, (ti_inc xt1 ⟨by decide, by decide⟩).trans e4.symm, rfl⟩
    refine lv_iinc (v := v4) (lv' := [(1, .int v4), (0, .ref (G.2.2 1034)), (2, .int xv2)]) C.1.1 C.1.2.1 dX0_hasWrongOverride_58 hl (k := 1) rfl g4 (by decide) rfl (fun ls hl => ?_)
    refine lv_goto (tgt := 8) C.1.1 C.1.2.1 dX0_hasWrongOverride_61 (by decide) ?_
    exact hP8 t4 hw hS (lv_sub hl [1, 0] rfl) h
  · have h := h.2 c3
    refine lv_aload_n C.1.1 C.1.2.1 dX0_hasWrongOverride_32 rfl (lv_at hl 0 rfl) ?_
    refine lv_iload_n C.1.1 C.1.2.1 dX0_hasWrongOverride_33 rfl (lv_at hl 1 rfl) ?_
    refine lv_iload_n C.1.1 C.1.2.1 dX0_hasWrongOverride_34 rfl (lv_at hl 2 rfl) ?_
    refine y_cVIp C (As := [.int xv1, .int xv2]) (rest := []) ml_X0_165 (kX0_standsFor l G SB S xt1 xt2 h) (ock_0 SB) (T := TX0) (N := 5) rfl (by decide) ⟨(Nat.le_of_ble_eq_true rfl), (Nat.le_of_ble_eq_true rfl)⟩ hl.1 rfl rfl (Nat.le_of_ble_eq_true rfl) hw hS dX0_hasWrongOverride_35 (fun v5 x_5 H locs t5 h hw hS => ?_)
    refine y_if_eq C t5 dX0_hasWrongOverride_38 (tgt := 52) (by decide) (fun c6 => ?_) (fun c6 => ?_)
    · have h := h.1 c6
      obtain ⟨x_7, e7⟩ : ∃ z : Int, z = w32 (x2 + 1) := ⟨_, rfl⟩
      have h := h x_7 e7
      obtain ⟨v7, t7, g7⟩ : ∃ z : Int32, z.toInt = x_7 ∧ xv2 + Int32.ofInt 1 = z := ⟨_, (ti_inc xt2 ⟨by decide, by decide⟩).trans e7.symm, rfl⟩
      refine lv_iinc (v := v7) (lv' := [(2, .int v7), (0, .ref (G.2.2 1034)), (1, .int xv1)]) C.1.1 C.1.2.1 dX0_hasWrongOverride_52 hl (k := 2) rfl g7 (by decide) rfl (fun ls hl => ?_)
      refine lv_goto (tgt := 21) C.1.1 C.1.2.1 dX0_hasWrongOverride_55 (by decide) ?_
      exact hP21 t7 hw hS (lv_sub hl [1, 2, 0] rfl) h
    · have h := h.2 c6
      refine lv_aload_n C.1.1 C.1.2.1 dX0_hasWrongOverride_41 rfl (lv_at hl 0 rfl) ?_
      refine lv_iload_n C.1.1 C.1.2.1 dX0_hasWrongOverride_42 rfl (lv_at hl 1 rfl) ?_
      refine lv_iload_n C.1.1 C.1.2.1 dX0_hasWrongOverride_43 rfl (lv_at hl 2 rfl) ?_
      refine y_cVIp C (As := [.int xv1, .int xv2]) (rest := []) ml_X0_168 (kX0_isWrong l G SB S xt1 xt2 h) (ock_0 SB) (T := TX0) (N := 5) rfl (by decide) ⟨(Nat.le_of_ble_eq_true rfl), (Nat.le_of_ble_eq_true rfl)⟩ hl.1 rfl rfl (Nat.le_of_ble_eq_true rfl) hw hS dX0_hasWrongOverride_44 (fun v8 x_8 H locs t8 h hw hS => ?_)
      refine y_if_eq C t8 dX0_hasWrongOverride_47 (tgt := 52) (by decide) (fun c9 => ?_) (fun c9 => ?_)
      · have h := h.1 c9
        obtain ⟨x_10, e10⟩ : ∃ z : Int, z = w32 (x2 + 1) := ⟨_, rfl⟩
        have h := h x_10 e10
        obtain ⟨v10, t10, g10⟩ : ∃ z : Int32, z.toInt = x_10 ∧ xv2 + Int32.ofInt 1 = z := ⟨_, (ti_inc xt2 ⟨by decide, by decide⟩).trans e10.symm, rfl⟩
        refine lv_iinc (v := v10) (lv' := [(2, .int v10), (0, .ref (G.2.2 1034)), (1, .int xv1)]) C.1.1 C.1.2.1 dX0_hasWrongOverride_52 hl (k := 2) rfl g10 (by decide) rfl (fun ls hl => ?_)
        refine lv_goto (tgt := 21) C.1.1 C.1.2.1 dX0_hasWrongOverride_55 (by decide) ?_
        exact hP21 t10 hw hS (lv_sub hl [1, 2, 0] rfl) h
      · have h := h.2 c9
        refine y_iconst C dX0_hasWrongOverride_50 ⟨by decide, by decide⟩ (fun v11 t11 => ?_)
        exact y_zret C hw hS t11 (Or.inr rfl) ⟨h, rfl⟩ dX0_hasWrongOverride_51
set_option maxHeartbeats 4000000 in
set_option maxRecDepth 10000 in
theorem uX0_hasWrongOverride_21 {p : Program} {l : Launch} {e : Env} {s : State} {m : MethodId} {args : Array Value} {below : List Frame} {meth : Method} {c : Code} {G : GG} {SB : St} (C : Cx p s m args meth c G RX0 cX0_hasWrongOverride 3 (some .boolean)) {S : St} {H : Heap} {locs : List Loc} {ls : Array Slot} {P8 : Int → Prop} {k : Int → Prop} (hw : Wd G ((injC SB) S) H) (hS : va_S (AG G) s.heap H locs) {xv1 : Int32} {x1 : Int} (xt1 : xv1.toInt = x1) {xv2 : Int32} {x2 : Int} (xt2 : xv2.toInt = x2) (hl : lv_has ls 3 [(0, .ref (G.2.2 1034)), (1, .int xv1), (2, .int xv2)]) (hP8 : ∀ {H : Heap} {locs : List Loc} {ls : Array Slot} {yv1 : Int32} {y1 : Int}, yv1.toInt = y1 → Wd G ((injC SB) S) H → va_S (AG G) s.heap H locs → lv_has ls 3 [(0, .ref (G.2.2 1034)), (1, .int yv1)] → P8 y1 → W p l e (rmF 3 70) s m args below meth c H locs 0 0 (MQ below (QcI G (injC SB) (fun r u => k r ∧ u = S)) args s 0 0 (AG G)) (F0 m 8 ls [])) (h : wX0_hasWrongOverride_21 S x1 x2 P8 k) : W p l e (rmF 3 70) s m args below meth c H locs 0 0 (MQ below (QcI G (injC SB) (fun r u => k r ∧ u = S)) args s 0 0 (AG G)) (F0 m 21 ls []) := by
  have key : ∀ (n : Nat) {H : Heap} {locs : List Loc} {ls : Array Slot} {xv2 : Int32} {x2 : Int}, xv2.toInt = x2 → Wd G ((injC SB) S) H → va_S (AG G) s.heap H locs → lv_has ls 3 [(0, .ref (G.2.2 1034)), (1, .int xv1), (2, .int xv2)] → itP (fun (P : Int → Prop) (a : Int) => wX0_hasWrongOverride_21_b S x1 a P8 (fun b0 => P (b0)) k) n (x2) → W p l e (rmF 3 70) s m args below meth c H locs 0 0 (MQ below (QcI G (injC SB) (fun r u => k r ∧ u = S)) args s 0 0 (AG G)) (F0 m 21 ls []) := by
    intro n
    induction n with
    | zero => intro H locs ls xv2 x2 xt2 hw hS hl h; exact h.elim
    | succ n ih =>
      intro H locs ls xv2 x2 xt2 hw hS hl h
      exact uX0_hasWrongOverride_21_b C hw hS xt1 xt2 hl hP8 (P21 := fun b0 => itP _ n (b0)) (fun q0 hw hS hl h => ih q0 hw hS hl h) h
  obtain ⟨n, hn⟩ := h
  exact key n xt2 hw hS hl hn
set_option maxHeartbeats 4000000 in
set_option maxRecDepth 10000 in
theorem uX0_hasWrongOverride_8_b {p : Program} {l : Launch} {e : Env} {s : State} {m : MethodId} {args : Array Value} {below : List Frame} {meth : Method} {c : Code} {G : GG} {SB : St} (C : Cx p s m args meth c G RX0 cX0_hasWrongOverride 3 (some .boolean)) {S : St} {H : Heap} {locs : List Loc} {ls : Array Slot}  {P8 : Int → Prop} {k : Int → Prop} (hw : Wd G ((injC SB) S) H) (hS : va_S (AG G) s.heap H locs) {xv1 : Int32} {x1 : Int} (xt1 : xv1.toInt = x1) (hl : lv_has ls 3 [(0, .ref (G.2.2 1034)), (1, .int xv1)])  (hP8 : ∀ {H : Heap} {locs : List Loc} {ls : Array Slot} {yv1 : Int32} {y1 : Int}, yv1.toInt = y1 → Wd G ((injC SB) S) H → va_S (AG G) s.heap H locs → lv_has ls 3 [(0, .ref (G.2.2 1034)), (1, .int yv1)] → P8 y1 → W p l e (rmF 3 70) s m args below meth c H locs 0 0 (MQ below (QcI G (injC SB) (fun r u => k r ∧ u = S)) args s 0 0 (AG G)) (F0 m 8 ls [])) (h : wX0_hasWrongOverride_8_b S x1 P8 k) : W p l e (rmF 3 70) s m args below meth c H locs 0 0 (MQ below (QcI G (injC SB) (fun r u => k r ∧ u = S)) args s 0 0 (AG G)) (F0 m 8 ls []) := by
  refine lv_iload_n C.1.1 C.1.2.1 dX0_hasWrongOverride_8 rfl (lv_at hl 1 rfl) ?_
  refine lv_aload_n C.1.1 C.1.2.1 dX0_hasWrongOverride_9 rfl (lv_at hl 0 rfl) ?_
  obtain ⟨x_1, e1⟩ : ∃ z : Int, z = S 1034 0 := ⟨_, rfl⟩
  obtain ⟨o1, h⟩ := h x_1 e1
  refine y_getO C fl_X0_18 hw (ock_0 SB) rfl e1 o1 dX0_hasWrongOverride_10 ?_
  refine y_getI C fl_X0_63 hw (oc_of SB o1) rfl dX0_hasWrongOverride_13 (fun v2 t2 => ?_)
  refine y_icmp_ge C xt1 t2 dX0_hasWrongOverride_16 (tgt := 64) (by decide) (fun c3 => ?_) (fun c3 => ?_)
  · have h := h.1 c3
    refine y_iconst C dX0_hasWrongOverride_64 ⟨by decide, by decide⟩ (fun v4 t4 => ?_)
    exact y_zret C hw hS t4 (Or.inl rfl) ⟨h, rfl⟩ dX0_hasWrongOverride_65
  · have h := h.2 c3
    refine y_iconst C dX0_hasWrongOverride_19 ⟨by decide, by decide⟩ (fun v5 t5 => ?_)
    refine lv_istore_n (lv' := [(2, .int v5), (0, .ref (G.2.2 1034)), (1, .int xv1)]) C.1.1 C.1.2.1 dX0_hasWrongOverride_20 rfl hl (by decide) rfl (fun ls hl => ?_)
    exact uX0_hasWrongOverride_21 C hw hS xt1 t5 (lv_sub hl [1, 2, 0] rfl) hP8 h
set_option maxHeartbeats 4000000 in
set_option maxRecDepth 10000 in
theorem uX0_hasWrongOverride_8 {p : Program} {l : Launch} {e : Env} {s : State} {m : MethodId} {args : Array Value} {below : List Frame} {meth : Method} {c : Code} {G : GG} {SB : St} (C : Cx p s m args meth c G RX0 cX0_hasWrongOverride 3 (some .boolean)) {S : St} {H : Heap} {locs : List Loc} {ls : Array Slot}  {k : Int → Prop} (hw : Wd G ((injC SB) S) H) (hS : va_S (AG G) s.heap H locs) {xv1 : Int32} {x1 : Int} (xt1 : xv1.toInt = x1) (hl : lv_has ls 3 [(0, .ref (G.2.2 1034)), (1, .int xv1)])  (h : wX0_hasWrongOverride_8 S x1 k) : W p l e (rmF 3 70) s m args below meth c H locs 0 0 (MQ below (QcI G (injC SB) (fun r u => k r ∧ u = S)) args s 0 0 (AG G)) (F0 m 8 ls []) := by
  have key : ∀ (n : Nat) {H : Heap} {locs : List Loc} {ls : Array Slot} {xv1 : Int32} {x1 : Int}, xv1.toInt = x1 → Wd G ((injC SB) S) H → va_S (AG G) s.heap H locs → lv_has ls 3 [(0, .ref (G.2.2 1034)), (1, .int xv1)] → itP (fun (P : Int → Prop) (a : Int) => wX0_hasWrongOverride_8_b S a (fun b0 => P (b0)) k) n (x1) → W p l e (rmF 3 70) s m args below meth c H locs 0 0 (MQ below (QcI G (injC SB) (fun r u => k r ∧ u = S)) args s 0 0 (AG G)) (F0 m 8 ls []) := by
    intro n
    induction n with
    | zero => intro H locs ls xv1 x1 xt1 hw hS hl h; exact h.elim
    | succ n ih =>
      intro H locs ls xv1 x1 xt1 hw hS hl h
      exact uX0_hasWrongOverride_8_b C hw hS xt1 hl  (P8 := fun b0 => itP _ n (b0)) (fun q0 hw hS hl h => ih q0 hw hS hl h) h
  obtain ⟨n, hn⟩ := h
  exact key n xt1 hw hS hl hn
set_option maxHeartbeats 4000000 in
set_option maxRecDepth 10000 in
theorem uX0_hasWrongOverride_0 {p : Program} {l : Launch} {e : Env} {s : State} {m : MethodId} {args : Array Value} {below : List Frame} {meth : Method} {c : Code} {G : GG} {SB : St} (C : Cx p s m args meth c G RX0 cX0_hasWrongOverride 3 (some .boolean)) {S : St} {H : Heap} {locs : List Loc} {ls : Array Slot}  {k : Int → Prop} (hw : Wd G ((injC SB) S) H) (hS : va_S (AG G) s.heap H locs)  (hl : lv_has ls 3 [(0, .ref (G.2.2 1034))])  (h : wX0_hasWrongOverride_0 S k) : W p l e (rmF 3 70) s m args below meth c H locs 0 0 (MQ below (QcI G (injC SB) (fun r u => k r ∧ u = S)) args s 0 0 (AG G)) (F0 m 0 ls []) := by
  refine lv_aload_n C.1.1 C.1.2.1 dX0_hasWrongOverride_0 rfl (lv_at hl 0 rfl) ?_
  obtain ⟨x_1, e1⟩ : ∃ z : Int, z = S 1034 1 := ⟨_, rfl⟩
  obtain ⟨o1, h⟩ := h x_1 e1
  refine y_getO C fl_X0_28 hw (ock_0 SB) rfl e1 o1 dX0_hasWrongOverride_1 ?_
  refine y_getI C fl_X0_57 hw (oc_of SB o1) rfl dX0_hasWrongOverride_4 (fun v2 t2 => ?_)
  obtain ⟨x_3, e3⟩ : ∃ z : Int, z = S x_1 16 := ⟨_, rfl⟩
  have h := h x_3 e3
  have t3 := t2.trans e3.symm
  refine lv_istore_n (lv' := [(1, .int v2), (0, .ref (G.2.2 1034))]) C.1.1 C.1.2.1 dX0_hasWrongOverride_7 rfl hl (by decide) rfl (fun ls hl => ?_)
  exact uX0_hasWrongOverride_8 C hw hS t3 (lv_sub hl [1, 0] rfl)  h
theorem kX0_hasWrongOverride (l : Launch) (G : GG) (SB S : St)  {k : Int → Prop} (h : wX0_hasWrongOverride S k) : CnI l yX0_hasWrongOverride cX0_hasWrongOverride 3 (some .boolean) 3 70 G (injC SB) [.ref (G.2.2 1034)] S (fun r u => k r ∧ u = S) :=
  cn_body (by decide +kernel) (Nat.le_of_ble_eq_true rfl) (fun p e s m args below meth c ls C hw hl => uX0_hasWrongOverride_0 C hw va_S.rf  (lv_sub hl [0] rfl) h)
set_option maxHeartbeats 4000000 in
set_option maxRecDepth 10000 in
theorem uX0_isOverridden_8_b {p : Program} {l : Launch} {e : Env} {s : State} {m : MethodId} {args : Array Value} {below : List Frame} {meth : Method} {c : Code} {G : GG} {SB : St} (C : Cx p s m args meth c G RX0 cX0_isOverridden 3 (some .boolean)) {S : St} {H : Heap} {locs : List Loc} {ls : Array Slot}  {P8 : Int → Prop} {k : Int → Prop} (hw : Wd G ((injC SB) S) H) (hS : va_S (AG G) s.heap H locs) {xv1 : Int32} {x1 : Int} (xt1 : xv1.toInt = x1) {xv2 : Int32} {x2 : Int} (xt2 : xv2.toInt = x2) (hl : lv_has ls 3 [(0, .ref (G.2.2 1034)), (1, .int xv1), (2, .int xv2)])  (hP8 : ∀ {H : Heap} {locs : List Loc} {ls : Array Slot} {yv2 : Int32} {y2 : Int}, yv2.toInt = y2 → Wd G ((injC SB) S) H → va_S (AG G) s.heap H locs → lv_has ls 3 [(0, .ref (G.2.2 1034)), (1, .int xv1), (2, .int yv2)] → P8 y2 → W p l e (rmF 1 22) s m args below meth c H locs 0 0 (MQ below (QcI G (injC SB) (fun r u => k r ∧ u = S)) args s 0 0 (AG G)) (F0 m 8 ls [])) (h : wX0_isOverridden_8_b S x1 x2 P8 k) : W p l e (rmF 1 22) s m args below meth c H locs 0 0 (MQ below (QcI G (injC SB) (fun r u => k r ∧ u = S)) args s 0 0 (AG G)) (F0 m 8 ls []) := by
  refine lv_iload_n C.1.1 C.1.2.1 dX0_isOverridden_8 rfl (lv_at hl 2 rfl) ?_
  refine lv_aload_n C.1.1 C.1.2.1 dX0_isOverridden_9 rfl (lv_at hl 0 rfl) ?_
  obtain ⟨x_1, e1⟩ : ∃ z : Int, z = S 1034 0 := ⟨_, rfl⟩
  obtain ⟨o1, h⟩ := h x_1 e1
  refine y_getO C fl_X0_18 hw (ock_0 SB) rfl e1 o1 dX0_isOverridden_10 ?_
  refine y_getI C fl_X0_63 hw (oc_of SB o1) rfl dX0_isOverridden_13 (fun v2 t2 => ?_)
  refine y_icmp_ge C xt2 t2 dX0_isOverridden_16 (tgt := 39) (by decide) (fun c3 => ?_) (fun c3 => ?_)
  · have h := h.1 c3
    refine y_iconst C dX0_isOverridden_39 ⟨by decide, by decide⟩ (fun v4 t4 => ?_)
    exact y_zret C hw hS t4 (Or.inl rfl) ⟨h, rfl⟩ dX0_isOverridden_40
  · have h := h.2 c3
    refine lv_aload_n C.1.1 C.1.2.1 dX0_isOverridden_19 rfl (lv_at hl 0 rfl) ?_
    obtain ⟨x_5, e5⟩ : ∃ z : Int, z = S 1034 0 := ⟨_, rfl⟩
    obtain ⟨o5, h⟩ := h x_5 e5
    refine y_getO C fl_X0_18 hw (ock_0 SB) rfl e5 o5 dX0_isOverridden_20 ?_
    refine lv_iload_n C.1.1 C.1.2.1 dX0_isOverridden_23 rfl (lv_at hl 2 rfl) ?_
    refine lv_iload_n C.1.1 C.1.2.1 dX0_isOverridden_24 rfl (lv_at hl 1 rfl) ?_
    refine y_cVIp C (As := [.int xv2, .int xv1]) (rest := []) ml_X0_162 (kX2_hasOverride l G SB S o5 xt2 xt1 h) (oc_of SB o5) (T := TX2) (N := 9) rfl (by decide) ⟨(Nat.le_of_ble_eq_true rfl), (Nat.le_of_ble_eq_true rfl)⟩ hl.1 rfl rfl (Nat.le_of_ble_eq_true rfl) hw hS dX0_isOverridden_25 (fun v6 x_6 H locs t6 h hw hS => ?_)
    refine y_if_eq C t6 dX0_isOverridden_28 (tgt := 33) (by decide) (fun c7 => ?_) (fun c7 => ?_)
    · have h := h.1 c7
      obtain ⟨x_8, e8⟩ : ∃ z : Int, z = w32 (x2 + 1) := ⟨_, rfl⟩
      have h := h x_8 e8
      obtain ⟨v8, t8, g8⟩ : ∃ z : Int32, z.toInt = x_8 ∧ xv2 + Int32.ofInt 1 = z := ⟨_, (ti_inc xt2 ⟨by decide, by decide⟩).trans e8.symm, rfl⟩
      refine lv_iinc (v := v8) (lv' := [(2, .int v8), (0, .ref (G.2.2 1034)), (1, .int xv1)]) C.1.1 C.1.2.1 dX0_isOverridden_33 hl (k := 2) rfl g8 (by decide) rfl (fun ls hl => ?_)
      refine lv_goto (tgt := 8) C.1.1 C.1.2.1 dX0_isOverridden_36 (by decide) ?_
      exact hP8 t8 hw hS (lv_sub hl [1, 2, 0] rfl) h
    · have h := h.2 c7
      refine y_iconst C dX0_isOverridden_31 ⟨by decide, by decide⟩ (fun v9 t9 => ?_)
      exact y_zret C hw hS t9 (Or.inr rfl) ⟨h, rfl⟩ dX0_isOverridden_32
set_option maxHeartbeats 4000000 in
set_option maxRecDepth 10000 in
theorem uX0_isOverridden_8 {p : Program} {l : Launch} {e : Env} {s : State} {m : MethodId} {args : Array Value} {below : List Frame} {meth : Method} {c : Code} {G : GG} {SB : St} (C : Cx p s m args meth c G RX0 cX0_isOverridden 3 (some .boolean)) {S : St} {H : Heap} {locs : List Loc} {ls : Array Slot}  {k : Int → Prop} (hw : Wd G ((injC SB) S) H) (hS : va_S (AG G) s.heap H locs) {xv1 : Int32} {x1 : Int} (xt1 : xv1.toInt = x1) {xv2 : Int32} {x2 : Int} (xt2 : xv2.toInt = x2) (hl : lv_has ls 3 [(0, .ref (G.2.2 1034)), (1, .int xv1), (2, .int xv2)])  (h : wX0_isOverridden_8 S x1 x2 k) : W p l e (rmF 1 22) s m args below meth c H locs 0 0 (MQ below (QcI G (injC SB) (fun r u => k r ∧ u = S)) args s 0 0 (AG G)) (F0 m 8 ls []) := by
  have key : ∀ (n : Nat) {H : Heap} {locs : List Loc} {ls : Array Slot} {xv2 : Int32} {x2 : Int}, xv2.toInt = x2 → Wd G ((injC SB) S) H → va_S (AG G) s.heap H locs → lv_has ls 3 [(0, .ref (G.2.2 1034)), (1, .int xv1), (2, .int xv2)] → itP (fun (P : Int → Prop) (a : Int) => wX0_isOverridden_8_b S x1 a (fun b0 => P (b0)) k) n (x2) → W p l e (rmF 1 22) s m args below meth c H locs 0 0 (MQ below (QcI G (injC SB) (fun r u => k r ∧ u = S)) args s 0 0 (AG G)) (F0 m 8 ls []) := by
    intro n
    induction n with
    | zero => intro H locs ls xv2 x2 xt2 hw hS hl h; exact h.elim
    | succ n ih =>
      intro H locs ls xv2 x2 xt2 hw hS hl h
      exact uX0_isOverridden_8_b C hw hS xt1 xt2 hl  (P8 := fun b0 => itP _ n (b0)) (fun q0 hw hS hl h => ih q0 hw hS hl h) h
  obtain ⟨n, hn⟩ := h
  exact key n xt2 hw hS hl hn
set_option maxHeartbeats 4000000 in
set_option maxRecDepth 10000 in
theorem uX0_isOverridden_0 {p : Program} {l : Launch} {e : Env} {s : State} {m : MethodId} {args : Array Value} {below : List Frame} {meth : Method} {c : Code} {G : GG} {SB : St} (C : Cx p s m args meth c G RX0 cX0_isOverridden 3 (some .boolean)) {S : St} {H : Heap} {locs : List Loc} {ls : Array Slot}  {k : Int → Prop} (hw : Wd G ((injC SB) S) H) (hS : va_S (AG G) s.heap H locs) {xv1 : Int32} {x1 : Int} (xt1 : xv1.toInt = x1) (hl : lv_has ls 3 [(0, .ref (G.2.2 1034)), (1, .int xv1)])  (h : wX0_isOverridden_0 S x1 k) : W p l e (rmF 1 22) s m args below meth c H locs 0 0 (MQ below (QcI G (injC SB) (fun r u => k r ∧ u = S)) args s 0 0 (AG G)) (F0 m 0 ls []) := by
  refine lv_aload_n C.1.1 C.1.2.1 dX0_isOverridden_0 rfl (lv_at hl 0 rfl) ?_
  obtain ⟨x_1, e1⟩ : ∃ z : Int, z = S 1034 1 := ⟨_, rfl⟩
  obtain ⟨o1, h⟩ := h x_1 e1
  refine y_getO C fl_X0_28 hw (ock_0 SB) rfl e1 o1 dX0_isOverridden_1 ?_
  refine y_getI C fl_X0_57 hw (oc_of SB o1) rfl dX0_isOverridden_4 (fun v2 t2 => ?_)
  obtain ⟨x_3, e3⟩ : ∃ z : Int, z = S x_1 16 := ⟨_, rfl⟩
  have h := h x_3 e3
  have t3 := t2.trans e3.symm
  refine lv_istore_n (lv' := [(2, .int v2), (0, .ref (G.2.2 1034)), (1, .int xv1)]) C.1.1 C.1.2.1 dX0_isOverridden_7 rfl hl (by decide) rfl (fun ls hl => ?_)
  exact uX0_isOverridden_8 C hw hS xt1 t3 (lv_sub hl [1, 2, 0] rfl)  h
theorem kX0_isOverridden (l : Launch) (G : GG) (SB S : St) {xv1 : Int32} {x1 : Int} (xt1 : xv1.toInt = x1) {k : Int → Prop} (h : wX0_isOverridden S x1 k) : CnI l yX0_isOverridden cX0_isOverridden 3 (some .boolean) 1 22 G (injC SB) [.ref (G.2.2 1034), .int xv1] S (fun r u => k r ∧ u = S) :=
  cn_body (by decide +kernel) (Nat.le_of_ble_eq_true rfl) (fun p e s m args below meth c ls C hw hl => uX0_isOverridden_0 C hw va_S.rf xt1 (lv_sub hl [0, 1] rfl) h)
set_option maxHeartbeats 4000000 in
set_option maxRecDepth 10000 in
theorem uX0_isQuarrel_0 {p : Program} {l : Launch} {e : Env} {s : State} {m : MethodId} {args : Array Value} {below : List Frame} {meth : Method} {c : Code} {G : GG} {SB : St} (C : Cx p s m args meth c G RX0 cX0_isQuarrel 5 (some .boolean)) {S : St} {H : Heap} {locs : List Loc} {ls : Array Slot}  {k : Int → Prop} (hw : Wd G ((injC SB) S) H) (hS : va_S (AG G) s.heap H locs) {xv1 : Int32} {x1 : Int} (xt1 : xv1.toInt = x1) {xv2 : Int32} {x2 : Int} (xt2 : xv2.toInt = x2) (hl : lv_has ls 5 [(0, .ref (G.2.2 1034)), (1, .int xv1), (2, .int xv2)])  (h : wX0_isQuarrel_0 S x1 x2 k) : W p l e (rmF 2 44) s m args below meth c H locs 0 0 (MQ below (QcI G (injC SB) (fun r u => k r ∧ u = S)) args s 0 0 (AG G)) (F0 m 0 ls []) := by
  refine lv_aload_n C.1.1 C.1.2.1 dX0_isQuarrel_0 rfl (lv_at hl 0 rfl) ?_
  refine lv_iload_n C.1.1 C.1.2.1 dX0_isQuarrel_1 rfl (lv_at hl 1 rfl) ?_
  refine lv_iload_n C.1.1 C.1.2.1 dX0_isQuarrel_2 rfl (lv_at hl 2 rfl) ?_
  refine y_cVIp C (As := [.int xv1, .int xv2]) (rest := []) ml_X0_143 (kX0_isAlike l G SB S xt1 xt2 h) (ock_0 SB) (T := TX0) (N := 5) rfl (by decide) ⟨(Nat.le_of_ble_eq_true rfl), (Nat.le_of_ble_eq_true rfl)⟩ hl.1 rfl rfl (Nat.le_of_ble_eq_true rfl) hw hS dX0_isQuarrel_3 (fun v1 x_1 H locs t1 h hw hS => ?_)
  refine y_if_eq C t1 dX0_isQuarrel_6 (tgt := 38) (by decide) (fun c2 => ?_) (fun c2 => ?_)
  · have h := h.1 c2
    refine y_iconst C dX0_isQuarrel_38 ⟨by decide, by decide⟩ (fun v3 t3 => ?_)
    exact y_zret C hw hS t3 (Or.inl rfl) ⟨h, rfl⟩ dX0_isQuarrel_39
  · have h := h.2 c2
    refine lv_aload_n C.1.1 C.1.2.1 dX0_isQuarrel_9 rfl (lv_at hl 0 rfl) ?_
    refine lv_iload_n C.1.1 C.1.2.1 dX0_isQuarrel_10 rfl (lv_at hl 1 rfl) ?_
    refine y_cVIp C (As := [.int xv1]) (rest := []) ml_X0_177 (kX0_resultSeen l G SB S xt1 h) (ock_0 SB) (T := TX0) (N := 5) rfl (by decide) ⟨(Nat.le_of_ble_eq_true rfl), (Nat.le_of_ble_eq_true rfl)⟩ hl.1 rfl rfl (Nat.le_of_ble_eq_true rfl) hw hS dX0_isQuarrel_11 (fun v4 x_4 H locs t4 h hw hS => ?_)
    refine lv_aload_n C.1.1 C.1.2.1 dX0_isQuarrel_14 rfl (lv_at hl 0 rfl) ?_
    refine lv_iload_n C.1.1 C.1.2.1 dX0_isQuarrel_15 rfl (lv_at hl 2 rfl) ?_
    refine y_cVIp C (As := [.int xv2]) (rest := [.int v4]) ml_X0_177 (kX0_resultSeen l G SB S xt2 h) (ock_0 SB) (T := TX0) (N := 5) rfl (by decide) ⟨(Nat.le_of_ble_eq_true rfl), (Nat.le_of_ble_eq_true rfl)⟩ hl.1 rfl rfl (Nat.le_of_ble_eq_true rfl) hw hS dX0_isQuarrel_16 (fun v5 x_5 H locs t5 h hw hS => ?_)
    refine y_icmp_eq C t4 t5 dX0_isQuarrel_19 (tgt := 38) (by decide) (fun c6 => ?_) (fun c6 => ?_)
    · have h := h.1 c6
      refine y_iconst C dX0_isQuarrel_38 ⟨by decide, by decide⟩ (fun v7 t7 => ?_)
      exact y_zret C hw hS t7 (Or.inl rfl) ⟨h, rfl⟩ dX0_isQuarrel_39
    · have h := h.2 c6
      refine lv_aload_n C.1.1 C.1.2.1 dX0_isQuarrel_22 rfl (lv_at hl 0 rfl) ?_
      refine lv_iload_n C.1.1 C.1.2.1 dX0_isQuarrel_23 rfl (lv_at hl 1 rfl) ?_
      refine y_cVIp C (As := [.int xv1]) (rest := []) ml_X0_190 (kX0_isOverridden l G SB S xt1 h) (ock_0 SB) (T := TX0) (N := 5) rfl (by decide) ⟨(Nat.le_of_ble_eq_true rfl), (Nat.le_of_ble_eq_true rfl)⟩ hl.1 rfl rfl (Nat.le_of_ble_eq_true rfl) hw hS dX0_isQuarrel_24 (fun v8 x_8 H locs t8 h hw hS => ?_)
      refine y_if_ne C t8 dX0_isQuarrel_27 (tgt := 38) (by decide) (fun c9 => ?_) (fun c9 => ?_)
      · have h := h.1 c9
        refine y_iconst C dX0_isQuarrel_38 ⟨by decide, by decide⟩ (fun v10 t10 => ?_)
        exact y_zret C hw hS t10 (Or.inl rfl) ⟨h, rfl⟩ dX0_isQuarrel_39
      · have h := h.2 c9
        refine lv_aload_n C.1.1 C.1.2.1 dX0_isQuarrel_30 rfl (lv_at hl 0 rfl) ?_
        refine lv_iload_n C.1.1 C.1.2.1 dX0_isQuarrel_31 rfl (lv_at hl 2 rfl) ?_
        refine y_cVIp C (As := [.int xv2]) (rest := []) ml_X0_190 (kX0_isOverridden l G SB S xt2 h) (ock_0 SB) (T := TX0) (N := 5) rfl (by decide) ⟨(Nat.le_of_ble_eq_true rfl), (Nat.le_of_ble_eq_true rfl)⟩ hl.1 rfl rfl (Nat.le_of_ble_eq_true rfl) hw hS dX0_isQuarrel_32 (fun v11 x_11 H locs t11 h hw hS => ?_)
        refine y_if_eq C t11 dX0_isQuarrel_35 (tgt := 40) (by decide) (fun c12 => ?_) (fun c12 => ?_)
        · have h := h.1 c12
          refine lv_aload_n C.1.1 C.1.2.1 dX0_isQuarrel_40 rfl (lv_at hl 0 rfl) ?_
          obtain ⟨x_13, e13⟩ : ∃ z : Int, z = S 1034 0 := ⟨_, rfl⟩
          obtain ⟨o13, h⟩ := h x_13 e13
          refine y_getO C fl_X0_18 hw (ock_0 SB) rfl e13 o13 dX0_isQuarrel_41 ?_
          refine y_getA C fl_X0_66 hw (oc_of SB o13) rfl (o := 2) rfl dX0_isQuarrel_44 ?_
          refine lv_iload_n C.1.1 C.1.2.1 dX0_isQuarrel_47 rfl (lv_at hl 1 rfl) ?_
          obtain ⟨b15, h⟩ := h
          obtain ⟨x_15, e15⟩ : ∃ z : Int, z = x_13 + 150 + 3 * x1 := ⟨_, rfl⟩
          have h := h x_15 e15
          have o15 : isO 3 x_15 := isO_mb o13 b15 e15
          refine y_mbO C hw o13 xt1 b15 e15 dX0_isQuarrel_48 ?_
          refine y_getI C fl_X0_116 hw (oc_of SB o15) rfl dX0_isQuarrel_49 (fun v16 t16 => ?_)
          obtain ⟨x_17, e17⟩ : ∃ z : Int, z = S x_15 1 := ⟨_, rfl⟩
          have h := h x_17 e17
          have t17 := t16.trans e17.symm
          refine lv_istore_n (lv' := [(3, .int v16), (0, .ref (G.2.2 1034)), (1, .int xv1), (2, .int xv2)]) C.1.1 C.1.2.1 dX0_isQuarrel_52 rfl hl (by decide) rfl (fun ls hl => ?_)
          refine lv_aload_n C.1.1 C.1.2.1 dX0_isQuarrel_53 rfl (lv_at hl 1 rfl) ?_
          obtain ⟨x_18, e18⟩ : ∃ z : Int, z = S 1034 0 := ⟨_, rfl⟩
          obtain ⟨o18, h⟩ := h x_18 e18
          refine y_getO C fl_X0_18 hw (ock_0 SB) rfl e18 o18 dX0_isQuarrel_54 ?_
          refine y_getA C fl_X0_66 hw (oc_of SB o18) rfl (o := 2) rfl dX0_isQuarrel_57 ?_
          refine lv_iload_n C.1.1 C.1.2.1 dX0_isQuarrel_60 rfl (lv_at hl 3 rfl) ?_
          obtain ⟨b20, h⟩ := h
          obtain ⟨x_20, e20⟩ : ∃ z : Int, z = x_18 + 150 + 3 * x2 := ⟨_, rfl⟩
          have h := h x_20 e20
          have o20 : isO 3 x_20 := isO_mb o18 b20 e20
          refine y_mbO C hw o18 xt2 b20 e20 dX0_isQuarrel_61 ?_
          refine y_getI C fl_X0_116 hw (oc_of SB o20) rfl dX0_isQuarrel_62 (fun v21 t21 => ?_)
          obtain ⟨x_22, e22⟩ : ∃ z : Int, z = S x_20 1 := ⟨_, rfl⟩
          have h := h x_22 e22
          have t22 := t21.trans e22.symm
          refine lv_istore (lv' := [(4, .int v21), (3, .int v16), (0, .ref (G.2.2 1034)), (1, .int xv1), (2, .int xv2)]) C.1.1 C.1.2.1 dX0_isQuarrel_65 hl (by decide) rfl (fun ls hl => ?_)
          refine lv_aload_n C.1.1 C.1.2.1 dX0_isQuarrel_67 rfl (lv_at hl 2 rfl) ?_
          obtain ⟨x_23, e23⟩ : ∃ z : Int, z = S 1034 0 := ⟨_, rfl⟩
          obtain ⟨o23, h⟩ := h x_23 e23
          refine y_getO C fl_X0_18 hw (ock_0 SB) rfl e23 o23 dX0_isQuarrel_68 ?_
          refine lv_iload_n C.1.1 C.1.2.1 dX0_isQuarrel_71 rfl (lv_at hl 1 rfl) ?_
          refine lv_iload C.1.1 C.1.2.1 dX0_isQuarrel_72 (lv_at hl 0 rfl) ?_
          refine y_cVIp C (As := [.int v16, .int v21]) (rest := []) ml_X0_118 (kX2_isUnder l G SB S o23 t17 t22 h) (oc_of SB o23) (T := TX2) (N := 9) rfl (by decide) ⟨(Nat.le_of_ble_eq_true rfl), (Nat.le_of_ble_eq_true rfl)⟩ hl.1 rfl rfl (Nat.le_of_ble_eq_true rfl) hw hS dX0_isQuarrel_74 (fun v24 x_24 H locs t24 h hw hS => ?_)
          refine y_if_ne C t24 dX0_isQuarrel_77 (tgt := 97) (by decide) (fun c25 => ?_) (fun c25 => ?_)
          · have h := h.1 c25
            refine y_iconst C dX0_isQuarrel_97 ⟨by decide, by decide⟩ (fun v26 t26 => ?_)
            exact y_zret C hw hS t26 (Or.inl rfl) ⟨h, rfl⟩ dX0_isQuarrel_98
          · have h := h.2 c25
            refine lv_aload_n C.1.1 C.1.2.1 dX0_isQuarrel_80 rfl (lv_at hl 2 rfl) ?_
            obtain ⟨x_27, e27⟩ : ∃ z : Int, z = S 1034 0 := ⟨_, rfl⟩
            obtain ⟨o27, h⟩ := h x_27 e27
            refine y_getO C fl_X0_18 hw (ock_0 SB) rfl e27 o27 dX0_isQuarrel_81 ?_
            refine lv_iload C.1.1 C.1.2.1 dX0_isQuarrel_84 (lv_at hl 0 rfl) ?_
            refine lv_iload_n C.1.1 C.1.2.1 dX0_isQuarrel_86 rfl (lv_at hl 1 rfl) ?_
            refine y_cVIp C (As := [.int v21, .int v16]) (rest := []) ml_X0_118 (kX2_isUnder l G SB S o27 t22 t17 h) (oc_of SB o27) (T := TX2) (N := 9) rfl (by decide) ⟨(Nat.le_of_ble_eq_true rfl), (Nat.le_of_ble_eq_true rfl)⟩ hl.1 rfl rfl (Nat.le_of_ble_eq_true rfl) hw hS dX0_isQuarrel_87 (fun v28 x_28 H locs t28 h hw hS => ?_)
            refine y_if_ne C t28 dX0_isQuarrel_90 (tgt := 97) (by decide) (fun c29 => ?_) (fun c29 => ?_)
            · have h := h.1 c29
              refine y_iconst C dX0_isQuarrel_97 ⟨by decide, by decide⟩ (fun v30 t30 => ?_)
              exact y_zret C hw hS t30 (Or.inl rfl) ⟨h, rfl⟩ dX0_isQuarrel_98
            · have h := h.2 c29
              refine y_iconst C dX0_isQuarrel_93 ⟨by decide, by decide⟩ (fun v31 t31 => ?_)
              refine lv_goto (tgt := 98) C.1.1 C.1.2.1 dX0_isQuarrel_94 (by decide) ?_
              exact y_zret C hw hS t31 (Or.inr rfl) ⟨h, rfl⟩ dX0_isQuarrel_98
        · have h := h.2 c12
          refine y_iconst C dX0_isQuarrel_38 ⟨by decide, by decide⟩ (fun v32 t32 => ?_)
          exact y_zret C hw hS t32 (Or.inl rfl) ⟨h, rfl⟩ dX0_isQuarrel_39
theorem kX0_isQuarrel (l : Launch) (G : GG) (SB S : St) {xv1 : Int32} {x1 : Int} (xt1 : xv1.toInt = x1) {xv2 : Int32} {x2 : Int} (xt2 : xv2.toInt = x2) {k : Int → Prop} (h : wX0_isQuarrel S x1 x2 k) : CnI l yX0_isQuarrel cX0_isQuarrel 5 (some .boolean) 2 44 G (injC SB) [.ref (G.2.2 1034), .int xv1, .int xv2] S (fun r u => k r ∧ u = S) :=
  cn_body (by decide +kernel) (Nat.le_of_ble_eq_true rfl) (fun p e s m args below meth c ls C hw hl => uX0_isQuarrel_0 C hw va_S.rf xt1 xt2 (lv_sub hl [0, 1, 2] rfl) h)
set_option maxHeartbeats 4000000 in
set_option maxRecDepth 10000 in
theorem uX0_hasQuarrel_12_b {p : Program} {l : Launch} {e : Env} {s : State} {m : MethodId} {args : Array Value} {below : List Frame} {meth : Method} {c : Code} {G : GG} {SB : St} (C : Cx p s m args meth c G RX0 cX0_hasQuarrel 3 (some .boolean)) {S : St} {H : Heap} {locs : List Loc} {ls : Array Slot} {P2 : Int → Prop} {P12 : Int → Prop} {k : Int → Prop} (hw : Wd G ((injC SB) S) H) (hS : va_S (AG G) s.heap H locs) {xv1 : Int32} {x1 : Int} (xt1 : xv1.toInt = x1) {xv2 : Int32} {x2 : Int} (xt2 : xv2.toInt = x2) (hl : lv_has ls 3 [(0, .ref (G.2.2 1034)), (1, .int xv1), (2, .int xv2)]) (hP2 : ∀ {H : Heap} {locs : List Loc} {ls : Array Slot} {yv1 : Int32} {y1 : Int}, yv1.toInt = y1 → Wd G ((injC SB) S) H → va_S (AG G) s.heap H locs → lv_has ls 3 [(0, .ref (G.2.2 1034)), (1, .int yv1)] → P2 y1 → W p l e (rmF 3 68) s m args below meth c H locs 0 0 (MQ below (QcI G (injC SB) (fun r u => k r ∧ u = S)) args s 0 0 (AG G)) (F0 m 2 ls [])) (hP12 : ∀ {H : Heap} {locs : List Loc} {ls : Array Slot} {yv2 : Int32} {y2 : Int}, yv2.toInt = y2 → Wd G ((injC SB) S) H → va_S (AG G) s.heap H locs → lv_has ls 3 [(0, .ref (G.2.2 1034)), (1, .int xv1), (2, .int yv2)] → P12 y2 → W p l e (rmF 3 68) s m args below meth c H locs 0 0 (MQ below (QcI G (injC SB) (fun r u => k r ∧ u = S)) args s 0 0 (AG G)) (F0 m 12 ls [])) (h : wX0_hasQuarrel_12_b S x1 x2 P2 P12 k) : W p l e (rmF 3 68) s m args below meth c H locs 0 0 (MQ below (QcI G (injC SB) (fun r u => k r ∧ u = S)) args s 0 0 (AG G)) (F0 m 12 ls []) := by
  refine lv_iload_n C.1.1 C.1.2.1 dX0_hasQuarrel_12 rfl (lv_at hl 2 rfl) ?_
  refine lv_iload_n C.1.1 C.1.2.1 dX0_hasQuarrel_13 rfl (lv_at hl 1 rfl) ?_
  refine y_icmp_ge C xt2 xt1 dX0_hasQuarrel_14 (tgt := 44) (by decide) (fun c1 => ?_) (fun c1 => ?_)
  · have h := h.1 c1
    obtain ⟨x_2, e2⟩ : ∃ z : Int, z = w32 (x1 + 1) := ⟨_, rfl⟩
    have h := h x_2 e2
    obtain ⟨v2, t2, g2⟩ : ∃ z : Int32, z.toInt = x_2 ∧ xv1 + Int32.ofInt 1 = z := ⟨_, (ti_inc xt1 ⟨by decide, by decide⟩).trans e2.symm, rfl⟩
    refine lv_iinc (v := v2) (lv' := [(1, .int v2), (0, .ref (G.2.2 1034)), (2, .int xv2)]) C.1.1 C.1.2.1 dX0_hasQuarrel_44 hl (k := 1) rfl g2 (by decide) rfl (fun ls hl => ?_)
    refine lv_goto (tgt := 2) C.1.1 C.1.2.1 dX0_hasQuarrel_47 (by decide) ?_
    exact hP2 t2 hw hS (lv_sub hl [1, 0] rfl) h
  · have h := h.2 c1
    refine lv_aload_n C.1.1 C.1.2.1 dX0_hasQuarrel_17 rfl (lv_at hl 0 rfl) ?_
    refine lv_aload_n C.1.1 C.1.2.1 dX0_hasQuarrel_18 rfl (lv_at hl 0 rfl) ?_
    refine y_getA C fl_X0_15 hw (ock_0 SB) rfl (o := 2) rfl dX0_hasQuarrel_19 ?_
    refine lv_iload_n C.1.1 C.1.2.1 dX0_hasQuarrel_22 rfl (lv_at hl 1 rfl) ?_
    obtain ⟨b4, h⟩ := h
    refine y_iald C hw (ack_0_3 SB) xt1 b4 dX0_hasQuarrel_23 (fun v4 t4 => ?_)
    refine lv_aload_n C.1.1 C.1.2.1 dX0_hasQuarrel_24 rfl (lv_at hl 0 rfl) ?_
    refine y_getA C fl_X0_15 hw (ock_0 SB) rfl (o := 2) rfl dX0_hasQuarrel_25 ?_
    refine lv_iload_n C.1.1 C.1.2.1 dX0_hasQuarrel_28 rfl (lv_at hl 2 rfl) ?_
    obtain ⟨b6, h⟩ := h
    refine y_iald C hw (ack_0_3 SB) xt2 b6 dX0_hasQuarrel_29 (fun v6 t6 => ?_)
    refine y_cVIp C (As := [.int v4, .int v6]) (rest := []) ml_X0_187 (kX0_isQuarrel l G SB S t4 t6 h) (ock_0 SB) (T := TX0) (N := 5) rfl (by decide) ⟨(Nat.le_of_ble_eq_true rfl), (Nat.le_of_ble_eq_true rfl)⟩ hl.1 rfl rfl (Nat.le_of_ble_eq_true rfl) hw hS dX0_hasQuarrel_30 (fun v7 x_7 H locs t7 h hw hS => ?_)
    refine y_if_eq C t7 dX0_hasQuarrel_33 (tgt := 38) (by decide) (fun c8 => ?_) (fun c8 => ?_)
    · have h := h.1 c8
      obtain ⟨x_9, e9⟩ : ∃ z : Int, z = w32 (x2 + 1) := ⟨_, rfl⟩
      have h := h x_9 e9
      obtain ⟨v9, t9, g9⟩ : ∃ z : Int32, z.toInt = x_9 ∧ xv2 + Int32.ofInt 1 = z := ⟨_, (ti_inc xt2 ⟨by decide, by decide⟩).trans e9.symm, rfl⟩
      refine lv_iinc (v := v9) (lv' := [(2, .int v9), (0, .ref (G.2.2 1034)), (1, .int xv1)]) C.1.1 C.1.2.1 dX0_hasQuarrel_38 hl (k := 2) rfl g9 (by decide) rfl (fun ls hl => ?_)
      refine lv_goto (tgt := 12) C.1.1 C.1.2.1 dX0_hasQuarrel_41 (by decide) ?_
      exact hP12 t9 hw hS (lv_sub hl [1, 2, 0] rfl) h
    · have h := h.2 c8
      refine y_iconst C dX0_hasQuarrel_36 ⟨by decide, by decide⟩ (fun v10 t10 => ?_)
      exact y_zret C hw hS t10 (Or.inr rfl) ⟨h, rfl⟩ dX0_hasQuarrel_37
set_option maxHeartbeats 4000000 in
set_option maxRecDepth 10000 in
theorem uX0_hasQuarrel_12 {p : Program} {l : Launch} {e : Env} {s : State} {m : MethodId} {args : Array Value} {below : List Frame} {meth : Method} {c : Code} {G : GG} {SB : St} (C : Cx p s m args meth c G RX0 cX0_hasQuarrel 3 (some .boolean)) {S : St} {H : Heap} {locs : List Loc} {ls : Array Slot} {P2 : Int → Prop} {k : Int → Prop} (hw : Wd G ((injC SB) S) H) (hS : va_S (AG G) s.heap H locs) {xv1 : Int32} {x1 : Int} (xt1 : xv1.toInt = x1) {xv2 : Int32} {x2 : Int} (xt2 : xv2.toInt = x2) (hl : lv_has ls 3 [(0, .ref (G.2.2 1034)), (1, .int xv1), (2, .int xv2)]) (hP2 : ∀ {H : Heap} {locs : List Loc} {ls : Array Slot} {yv1 : Int32} {y1 : Int}, yv1.toInt = y1 → Wd G ((injC SB) S) H → va_S (AG G) s.heap H locs → lv_has ls 3 [(0, .ref (G.2.2 1034)), (1, .int yv1)] → P2 y1 → W p l e (rmF 3 68) s m args below meth c H locs 0 0 (MQ below (QcI G (injC SB) (fun r u => k r ∧ u = S)) args s 0 0 (AG G)) (F0 m 2 ls [])) (h : wX0_hasQuarrel_12 S x1 x2 P2 k) : W p l e (rmF 3 68) s m args below meth c H locs 0 0 (MQ below (QcI G (injC SB) (fun r u => k r ∧ u = S)) args s 0 0 (AG G)) (F0 m 12 ls []) := by
  have key : ∀ (n : Nat) {H : Heap} {locs : List Loc} {ls : Array Slot} {xv2 : Int32} {x2 : Int}, xv2.toInt = x2 → Wd G ((injC SB) S) H → va_S (AG G) s.heap H locs → lv_has ls 3 [(0, .ref (G.2.2 1034)), (1, .int xv1), (2, .int xv2)] → itP (fun (P : Int → Prop) (a : Int) => wX0_hasQuarrel_12_b S x1 a P2 (fun b0 => P (b0)) k) n (x2) → W p l e (rmF 3 68) s m args below meth c H locs 0 0 (MQ below (QcI G (injC SB) (fun r u => k r ∧ u = S)) args s 0 0 (AG G)) (F0 m 12 ls []) := by
    intro n
    induction n with
    | zero => intro H locs ls xv2 x2 xt2 hw hS hl h; exact h.elim
    | succ n ih =>
      intro H locs ls xv2 x2 xt2 hw hS hl h
      exact uX0_hasQuarrel_12_b C hw hS xt1 xt2 hl hP2 (P12 := fun b0 => itP _ n (b0)) (fun q0 hw hS hl h => ih q0 hw hS hl h) h
  obtain ⟨n, hn⟩ := h
  exact key n xt2 hw hS hl hn
set_option maxHeartbeats 4000000 in
set_option maxRecDepth 10000 in
theorem uX0_hasQuarrel_2_b {p : Program} {l : Launch} {e : Env} {s : State} {m : MethodId} {args : Array Value} {below : List Frame} {meth : Method} {c : Code} {G : GG} {SB : St} (C : Cx p s m args meth c G RX0 cX0_hasQuarrel 3 (some .boolean)) {S : St} {H : Heap} {locs : List Loc} {ls : Array Slot}  {P2 : Int → Prop} {k : Int → Prop} (hw : Wd G ((injC SB) S) H) (hS : va_S (AG G) s.heap H locs) {xv1 : Int32} {x1 : Int} (xt1 : xv1.toInt = x1) (hl : lv_has ls 3 [(0, .ref (G.2.2 1034)), (1, .int xv1)])  (hP2 : ∀ {H : Heap} {locs : List Loc} {ls : Array Slot} {yv1 : Int32} {y1 : Int}, yv1.toInt = y1 → Wd G ((injC SB) S) H → va_S (AG G) s.heap H locs → lv_has ls 3 [(0, .ref (G.2.2 1034)), (1, .int yv1)] → P2 y1 → W p l e (rmF 3 68) s m args below meth c H locs 0 0 (MQ below (QcI G (injC SB) (fun r u => k r ∧ u = S)) args s 0 0 (AG G)) (F0 m 2 ls [])) (h : wX0_hasQuarrel_2_b S x1 P2 k) : W p l e (rmF 3 68) s m args below meth c H locs 0 0 (MQ below (QcI G (injC SB) (fun r u => k r ∧ u = S)) args s 0 0 (AG G)) (F0 m 2 ls []) := by
  refine lv_iload_n C.1.1 C.1.2.1 dX0_hasQuarrel_2 rfl (lv_at hl 1 rfl) ?_
  refine lv_aload_n C.1.1 C.1.2.1 dX0_hasQuarrel_3 rfl (lv_at hl 0 rfl) ?_
  refine y_getI C fl_X0_126 hw (ock_0 SB) rfl dX0_hasQuarrel_4 (fun v1 t1 => ?_)
  refine y_icmp_ge C xt1 t1 dX0_hasQuarrel_7 (tgt := 50) (by decide) (fun c2 => ?_) (fun c2 => ?_)
  · have h := h.1 c2
    refine y_iconst C dX0_hasQuarrel_50 ⟨by decide, by decide⟩ (fun v3 t3 => ?_)
    exact y_zret C hw hS t3 (Or.inl rfl) ⟨h, rfl⟩ dX0_hasQuarrel_51
  · have h := h.2 c2
    refine y_iconst C dX0_hasQuarrel_10 ⟨by decide, by decide⟩ (fun v4 t4 => ?_)
    refine lv_istore_n (lv' := [(2, .int v4), (0, .ref (G.2.2 1034)), (1, .int xv1)]) C.1.1 C.1.2.1 dX0_hasQuarrel_11 rfl hl (by decide) rfl (fun ls hl => ?_)
    exact uX0_hasQuarrel_12 C hw hS xt1 t4 (lv_sub hl [1, 2, 0] rfl) hP2 h
set_option maxHeartbeats 4000000 in
set_option maxRecDepth 10000 in
theorem uX0_hasQuarrel_2 {p : Program} {l : Launch} {e : Env} {s : State} {m : MethodId} {args : Array Value} {below : List Frame} {meth : Method} {c : Code} {G : GG} {SB : St} (C : Cx p s m args meth c G RX0 cX0_hasQuarrel 3 (some .boolean)) {S : St} {H : Heap} {locs : List Loc} {ls : Array Slot}  {k : Int → Prop} (hw : Wd G ((injC SB) S) H) (hS : va_S (AG G) s.heap H locs) {xv1 : Int32} {x1 : Int} (xt1 : xv1.toInt = x1) (hl : lv_has ls 3 [(0, .ref (G.2.2 1034)), (1, .int xv1)])  (h : wX0_hasQuarrel_2 S x1 k) : W p l e (rmF 3 68) s m args below meth c H locs 0 0 (MQ below (QcI G (injC SB) (fun r u => k r ∧ u = S)) args s 0 0 (AG G)) (F0 m 2 ls []) := by
  have key : ∀ (n : Nat) {H : Heap} {locs : List Loc} {ls : Array Slot} {xv1 : Int32} {x1 : Int}, xv1.toInt = x1 → Wd G ((injC SB) S) H → va_S (AG G) s.heap H locs → lv_has ls 3 [(0, .ref (G.2.2 1034)), (1, .int xv1)] → itP (fun (P : Int → Prop) (a : Int) => wX0_hasQuarrel_2_b S a (fun b0 => P (b0)) k) n (x1) → W p l e (rmF 3 68) s m args below meth c H locs 0 0 (MQ below (QcI G (injC SB) (fun r u => k r ∧ u = S)) args s 0 0 (AG G)) (F0 m 2 ls []) := by
    intro n
    induction n with
    | zero => intro H locs ls xv1 x1 xt1 hw hS hl h; exact h.elim
    | succ n ih =>
      intro H locs ls xv1 x1 xt1 hw hS hl h
      exact uX0_hasQuarrel_2_b C hw hS xt1 hl  (P2 := fun b0 => itP _ n (b0)) (fun q0 hw hS hl h => ih q0 hw hS hl h) h
  obtain ⟨n, hn⟩ := h
  exact key n xt1 hw hS hl hn
set_option maxHeartbeats 4000000 in
set_option maxRecDepth 10000 in
theorem uX0_hasQuarrel_0 {p : Program} {l : Launch} {e : Env} {s : State} {m : MethodId} {args : Array Value} {below : List Frame} {meth : Method} {c : Code} {G : GG} {SB : St} (C : Cx p s m args meth c G RX0 cX0_hasQuarrel 3 (some .boolean)) {S : St} {H : Heap} {locs : List Loc} {ls : Array Slot}  {k : Int → Prop} (hw : Wd G ((injC SB) S) H) (hS : va_S (AG G) s.heap H locs)  (hl : lv_has ls 3 [(0, .ref (G.2.2 1034))])  (h : wX0_hasQuarrel_0 S k) : W p l e (rmF 3 68) s m args below meth c H locs 0 0 (MQ below (QcI G (injC SB) (fun r u => k r ∧ u = S)) args s 0 0 (AG G)) (F0 m 0 ls []) := by
  refine y_iconst C dX0_hasQuarrel_0 ⟨by decide, by decide⟩ (fun v1 t1 => ?_)
  refine lv_istore_n (lv' := [(1, .int v1), (0, .ref (G.2.2 1034))]) C.1.1 C.1.2.1 dX0_hasQuarrel_1 rfl hl (by decide) rfl (fun ls hl => ?_)
  exact uX0_hasQuarrel_2 C hw hS t1 (lv_sub hl [1, 0] rfl)  h
theorem kX0_hasQuarrel (l : Launch) (G : GG) (SB S : St)  {k : Int → Prop} (h : wX0_hasQuarrel S k) : CnI l yX0_hasQuarrel cX0_hasQuarrel 3 (some .boolean) 3 68 G (injC SB) [.ref (G.2.2 1034)] S (fun r u => k r ∧ u = S) :=
  cn_body (by decide +kernel) (Nat.le_of_ble_eq_true rfl) (fun p e s m args below meth c ls C hw hl => uX0_hasQuarrel_0 C hw va_S.rf  (lv_sub hl [0] rfl) h)
set_option maxHeartbeats 4000000 in
set_option maxRecDepth 10000 in
theorem uX0_makeBridge_32 {p : Program} {l : Launch} {e : Env} {s : State} {m : MethodId} {args : Array Value} {below : List Frame} {meth : Method} {c : Code} {G : GG} {SB : St} (C : Cx p s m args meth c G RX0 cX0_makeBridge 4 none) {S : St} {H : Heap} {locs : List Loc} {ls : Array Slot}  {k : St → Prop} (hw : Wd G ((injC SB) S) H) (hS : va_S (AG G) s.heap H locs) {xv1 : Int32} {x1 : Int} (xt1 : xv1.toInt = x1) {xv2 : Int32} {x2 : Int} (xt2 : xv2.toInt = x2) {sv0 : Int32} {s0 : Int} (st0 : sv0.toInt = s0) (hl : lv_has ls 4 [(0, .ref (G.2.2 1034)), (1, .int xv1), (2, .int xv2)])  (h : wX0_makeBridge_32 S x1 x2 s0 k) : W p l e (rmF 1 25) s m args below meth c H locs 0 0 (MQ below (QcV G (injC SB) k) args s 0 0 (AG G)) (F0 m 32 ls [.int sv0]) := by
  refine lv_istore_n (lv' := [(3, .int sv0), (0, .ref (G.2.2 1034)), (1, .int xv1), (2, .int xv2)]) C.1.1 C.1.2.1 dX0_makeBridge_32 rfl hl (by decide) rfl (fun ls hl => ?_)
  refine lv_iload_n C.1.1 C.1.2.1 dX0_makeBridge_33 rfl (lv_at hl 0 rfl) ?_
  refine y_if_ne C st0 dX0_makeBridge_34 (tgt := 108) (by decide) (fun c1 => ?_) (fun c1 => ?_)
  · have h := h.1 c1
    exact y_vret C hw hS h dX0_makeBridge_108
  · have h := h.2 c1
    refine lv_aload_n C.1.1 C.1.2.1 dX0_makeBridge_37 rfl (lv_at hl 1 rfl) ?_
    obtain ⟨x_2, e2⟩ : ∃ z : Int, z = S 1034 0 := ⟨_, rfl⟩
    obtain ⟨o2, h⟩ := h x_2 e2
    refine y_getO C fl_X0_18 hw (ock_0 SB) rfl e2 o2 dX0_makeBridge_38 ?_
    refine y_getI C fl_X0_193 hw (oc_of SB o2) rfl dX0_makeBridge_41 (fun v3 t3 => ?_)
    refine y_sipush C dX0_makeBridge_44 ⟨by decide, by decide⟩ (fun v4 t4 => ?_)
    refine y_icmp_ge C t3 t4 dX0_makeBridge_47 (tgt := 108) (by decide) (fun c5 => ?_) (fun c5 => ?_)
    · have h := h.1 c5
      exact y_vret C hw hS h dX0_makeBridge_108
    · have h := h.2 c5
      refine lv_aload_n C.1.1 C.1.2.1 dX0_makeBridge_50 rfl (lv_at hl 1 rfl) ?_
      obtain ⟨x_6, e6⟩ : ∃ z : Int, z = S 1034 0 := ⟨_, rfl⟩
      obtain ⟨o6, h⟩ := h x_6 e6
      refine y_getO C fl_X0_18 hw (ock_0 SB) rfl e6 o6 dX0_makeBridge_51 ?_
      refine y_getA C fl_X0_216 hw (oc_of SB o6) rfl (o := 4) rfl dX0_makeBridge_54 ?_
      refine lv_aload_n C.1.1 C.1.2.1 dX0_makeBridge_57 rfl (lv_at hl 1 rfl) ?_
      obtain ⟨x_8, e8⟩ : ∃ z : Int, z = S 1034 0 := ⟨_, rfl⟩
      obtain ⟨o8, h⟩ := h x_8 e8
      refine y_getO C fl_X0_18 hw (ock_0 SB) rfl e8 o8 dX0_makeBridge_58 ?_
      refine y_getI C fl_X0_193 hw (oc_of SB o8) rfl dX0_makeBridge_61 (fun v9 t9 => ?_)
      refine lv_iload_n C.1.1 C.1.2.1 dX0_makeBridge_64 rfl (lv_at hl 2 rfl) ?_
      obtain ⟨b10, h⟩ := h
      obtain ⟨S_10, e10⟩ : ∃ z : St, z = up S (x_6 + 4) (S x_8 7) x1 := ⟨_, rfl⟩
      have h := h S_10 e10
      refine y_iast C hw hS (ac_2_5 SB o6) t9 xt1 b10 dX0_makeBridge_65 (fun H locs hw hS => ?_)
      have hw : Wd G ((injC SB) S_10) H := by rw [e10]; exact hw
      refine lv_aload_n C.1.1 C.1.2.1 dX0_makeBridge_66 rfl (lv_at hl 1 rfl) ?_
      obtain ⟨x_11, e11⟩ : ∃ z : Int, z = S_10 1034 0 := ⟨_, rfl⟩
      obtain ⟨o11, h⟩ := h x_11 e11
      refine y_getO C fl_X0_18 hw (ock_0 SB) rfl e11 o11 dX0_makeBridge_67 ?_
      refine y_getA C fl_X0_219 hw (oc_of SB o11) rfl (o := 5) rfl dX0_makeBridge_70 ?_
      refine lv_aload_n C.1.1 C.1.2.1 dX0_makeBridge_73 rfl (lv_at hl 1 rfl) ?_
      obtain ⟨x_13, e13⟩ : ∃ z : Int, z = S_10 1034 0 := ⟨_, rfl⟩
      obtain ⟨o13, h⟩ := h x_13 e13
      refine y_getO C fl_X0_18 hw (ock_0 SB) rfl e13 o13 dX0_makeBridge_74 ?_
      refine y_getI C fl_X0_193 hw (oc_of SB o13) rfl dX0_makeBridge_77 (fun v14 t14 => ?_)
      refine lv_iload_n C.1.1 C.1.2.1 dX0_makeBridge_80 rfl (lv_at hl 3 rfl) ?_
      obtain ⟨b15, h⟩ := h
      obtain ⟨S_15, e15⟩ : ∃ z : St, z = up S_10 (x_11 + 5) (S_10 x_13 7) x2 := ⟨_, rfl⟩
      have h := h S_15 e15
      refine y_iast C hw hS (ac_2_6 SB o11) t14 xt2 b15 dX0_makeBridge_81 (fun H locs hw hS => ?_)
      have hw : Wd G ((injC SB) S_15) H := by rw [e15]; exact hw
      refine lv_aload_n C.1.1 C.1.2.1 dX0_makeBridge_82 rfl (lv_at hl 1 rfl) ?_
      obtain ⟨x_16, e16⟩ : ∃ z : Int, z = S_15 1034 0 := ⟨_, rfl⟩
      obtain ⟨o16, h⟩ := h x_16 e16
      refine y_getO C fl_X0_18 hw (ock_0 SB) rfl e16 o16 dX0_makeBridge_83 ?_
      refine lv_dup C.1.1 C.1.2.1 dX0_makeBridge_86 rfl ?_
      refine y_getI C fl_X0_193 hw (oc_of SB o16) rfl dX0_makeBridge_87 (fun v17 t17 => ?_)
      refine y_iconst C dX0_makeBridge_90 ⟨by decide, by decide⟩ (fun v18 t18 => ?_)
      refine y_iadd C t17 t18 dX0_makeBridge_91 (fun v19 t19 => ?_)
      obtain ⟨S_20, e20⟩ : ∃ z : St, z = up S_15 x_16 7 (w32 (S_15 x_16 7 + 1)) := ⟨_, rfl⟩
      have h := h S_20 e20
      refine y_putI C fl_X0_193 fp_2_7 hw hS (oc_of SB o16) rfl t19 dX0_makeBridge_92 (fun H locs hw hS => ?_)
      have hw : Wd G ((injC SB) S_20) H := by rw [e20]; exact hw
      refine lv_aload_n C.1.1 C.1.2.1 dX0_makeBridge_95 rfl (lv_at hl 1 rfl) ?_
      obtain ⟨x_21, e21⟩ : ∃ z : Int, z = S_20 1034 1 := ⟨_, rfl⟩
      obtain ⟨o21, h⟩ := h x_21 e21
      refine y_getO C fl_X0_28 hw (ock_0 SB) rfl e21 o21 dX0_makeBridge_96 ?_
      refine lv_dup C.1.1 C.1.2.1 dX0_makeBridge_99 rfl ?_
      refine y_getI C fl_X0_222 hw (oc_of SB o21) rfl dX0_makeBridge_100 (fun v22 t22 => ?_)
      refine y_iconst C dX0_makeBridge_103 ⟨by decide, by decide⟩ (fun v23 t23 => ?_)
      refine y_iadd C t22 t23 dX0_makeBridge_104 (fun v24 t24 => ?_)
      obtain ⟨S_25, e25⟩ : ∃ z : St, z = up S_20 x_21 19 (w32 (S_20 x_21 19 + 1)) := ⟨_, rfl⟩
      have h := h S_25 e25
      refine y_putI C fl_X0_222 fp_6_19 hw hS (oc_of SB o21) rfl t24 dX0_makeBridge_105 (fun H locs hw hS => ?_)
      have hw : Wd G ((injC SB) S_25) H := by rw [e25]; exact hw
      exact y_vret C hw hS h dX0_makeBridge_108
set_option maxHeartbeats 4000000 in
set_option maxRecDepth 10000 in
theorem uX0_makeBridge_0 {p : Program} {l : Launch} {e : Env} {s : State} {m : MethodId} {args : Array Value} {below : List Frame} {meth : Method} {c : Code} {G : GG} {SB : St} (C : Cx p s m args meth c G RX0 cX0_makeBridge 4 none) {S : St} {H : Heap} {locs : List Loc} {ls : Array Slot}  {k : St → Prop} (hw : Wd G ((injC SB) S) H) (hS : va_S (AG G) s.heap H locs) {xv1 : Int32} {x1 : Int} (xt1 : xv1.toInt = x1) {xv2 : Int32} {x2 : Int} (xt2 : xv2.toInt = x2) (hl : lv_has ls 4 [(0, .ref (G.2.2 1034)), (1, .int xv1), (2, .int xv2)])  (h : wX0_makeBridge_0 S x1 x2 k) : W p l e (rmF 1 25) s m args below meth c H locs 0 0 (MQ below (QcV G (injC SB) k) args s 0 0 (AG G)) (F0 m 0 ls []) := by
  refine lv_aload_n C.1.1 C.1.2.1 dX0_makeBridge_0 rfl (lv_at hl 0 rfl) ?_
  obtain ⟨x_1, e1⟩ : ∃ z : Int, z = S 1034 0 := ⟨_, rfl⟩
  obtain ⟨o1, h⟩ := h x_1 e1
  refine y_getO C fl_X0_18 hw (ock_0 SB) rfl e1 o1 dX0_makeBridge_1 ?_
  refine lv_aload_n C.1.1 C.1.2.1 dX0_makeBridge_4 rfl (lv_at hl 0 rfl) ?_
  obtain ⟨x_2, e2⟩ : ∃ z : Int, z = S 1034 1 := ⟨_, rfl⟩
  obtain ⟨o2, h⟩ := h x_2 e2
  refine y_getO C fl_X0_28 hw (ock_0 SB) rfl e2 o2 dX0_makeBridge_5 ?_
  refine lv_aload_n C.1.1 C.1.2.1 dX0_makeBridge_8 rfl (lv_at hl 0 rfl) ?_
  obtain ⟨x_3, e3⟩ : ∃ z : Int, z = S 1034 0 := ⟨_, rfl⟩
  obtain ⟨o3, h⟩ := h x_3 e3
  refine y_getO C fl_X0_18 hw (ock_0 SB) rfl e3 o3 dX0_makeBridge_9 ?_
  refine y_getA C fl_X0_66 hw (oc_of SB o3) rfl (o := 2) rfl dX0_makeBridge_12 ?_
  refine lv_iload_n C.1.1 C.1.2.1 dX0_makeBridge_15 rfl (lv_at hl 2 rfl) ?_
  obtain ⟨b5, h⟩ := h
  obtain ⟨x_5, e5⟩ : ∃ z : Int, z = x_3 + 150 + 3 * x2 := ⟨_, rfl⟩
  have h := h x_5 e5
  have o5 : isO 3 x_5 := isO_mb o3 b5 e5
  refine y_mbO C hw o3 xt2 b5 e5 dX0_makeBridge_16 ?_
  refine y_getI C fl_X0_209 hw (oc_of SB o5) rfl dX0_makeBridge_17 (fun v6 t6 => ?_)
  refine y_cVIp C (As := [.ref (G.2.2 (x_2).toNat), .int v6]) (rest := []) ml_X0_212 (kX2_methodIn l G SB S o1 o2 t6 h) (oc_of SB o1) (T := TX2) (N := 9) rfl (by decide) ⟨(Nat.le_of_ble_eq_true rfl), (Nat.le_of_ble_eq_true rfl)⟩ hl.1 rfl rfl (Nat.le_of_ble_eq_true rfl) hw hS dX0_makeBridge_20 (fun v7 x_7 H locs t7 h hw hS => ?_)
  refine y_iconst C dX0_makeBridge_23 ⟨by decide, by decide⟩ (fun v8 t8 => ?_)
  refine y_icmp_eq C t7 t8 dX0_makeBridge_24 (tgt := 31) (by decide) (fun c9 => ?_) (fun c9 => ?_)
  · have h := h.1 c9
    refine y_iconst C dX0_makeBridge_31 ⟨by decide, by decide⟩ (fun v10 t10 => ?_)
    exact uX0_makeBridge_32 C hw hS xt1 xt2 t10 (lv_sub hl [0, 1, 2] rfl)  h
  · have h := h.2 c9
    refine y_iconst C dX0_makeBridge_27 ⟨by decide, by decide⟩ (fun v11 t11 => ?_)
    refine lv_goto (tgt := 32) C.1.1 C.1.2.1 dX0_makeBridge_28 (by decide) ?_
    exact uX0_makeBridge_32 C hw hS xt1 xt2 t11 (lv_sub hl [0, 1, 2] rfl)  h
theorem kX0_makeBridge (l : Launch) (G : GG) (SB S : St) {xv1 : Int32} {x1 : Int} (xt1 : xv1.toInt = x1) {xv2 : Int32} {x2 : Int} (xt2 : xv2.toInt = x2) {k : St → Prop} (h : wX0_makeBridge S x1 x2 k) : CnV l yX0_makeBridge cX0_makeBridge 4 none 1 25 G (injC SB) [.ref (G.2.2 1034), .int xv1, .int xv2] S k :=
  cn_body (by decide +kernel) (Nat.le_of_ble_eq_true rfl) (fun p e s m args below meth c ls C hw hl => uX0_makeBridge_0 C hw va_S.rf xt1 xt2 (lv_sub hl [0, 1, 2] rfl) h)
set_option maxHeartbeats 4000000 in
set_option maxRecDepth 10000 in
theorem uX0_makeBridgesTo_48_b {p : Program} {l : Launch} {e : Env} {s : State} {m : MethodId} {args : Array Value} {below : List Frame} {meth : Method} {c : Code} {G : GG} {SB : St} (C : Cx p s m args meth c G RX0 cX0_makeBridgesTo 6 none) {S : St} {H : Heap} {locs : List Loc} {ls : Array Slot} {P2 : Int → St → Prop} {P48 : Int → St → Prop} {k : St → Prop} (hw : Wd G ((injC SB) S) H) (hS : va_S (AG G) s.heap H locs) {xv1 : Int32} {x1 : Int} (xt1 : xv1.toInt = x1) {xv2 : Int32} {x2 : Int} (xt2 : xv2.toInt = x2) {xv4 : Int32} {x4 : Int} (xt4 : xv4.toInt = x4) {xv5 : Int32} {x5 : Int} (xt5 : xv5.toInt = x5) (hl : lv_has ls 6 [(0, .ref (G.2.2 1034)), (1, .int xv1), (2, .int xv2), (4, .int xv4), (5, .int xv5)]) (hP2 : ∀ {H : Heap} {locs : List Loc} {ls : Array Slot} {Sy : St} {yv2 : Int32} {y2 : Int}, yv2.toInt = y2 → Wd G ((injC SB) Sy) H → va_S (AG G) s.heap H locs → lv_has ls 6 [(0, .ref (G.2.2 1034)), (1, .int xv1), (2, .int yv2)] → P2 y2 Sy → W p l e (rmF 2 48) s m args below meth c H locs 0 0 (MQ below (QcV G (injC SB) k) args s 0 0 (AG G)) (F0 m 2 ls [])) (hP48 : ∀ {H : Heap} {locs : List Loc} {ls : Array Slot} {Sy : St} {yv5 : Int32} {y5 : Int}, yv5.toInt = y5 → Wd G ((injC SB) Sy) H → va_S (AG G) s.heap H locs → lv_has ls 6 [(0, .ref (G.2.2 1034)), (1, .int xv1), (2, .int xv2), (4, .int xv4), (5, .int yv5)] → P48 y5 Sy → W p l e (rmF 2 48) s m args below meth c H locs 0 0 (MQ below (QcV G (injC SB) k) args s 0 0 (AG G)) (F0 m 48 ls [])) (h : wX0_makeBridgesTo_48_b S x1 x2 x4 x5 P2 P48 k) : W p l e (rmF 2 48) s m args below meth c H locs 0 0 (MQ below (QcV G (injC SB) k) args s 0 0 (AG G)) (F0 m 48 ls []) := by
  refine lv_iload C.1.1 C.1.2.1 dX0_makeBridgesTo_48 (lv_at hl 4 rfl) ?_
  refine lv_iload C.1.1 C.1.2.1 dX0_makeBridgesTo_50 (lv_at hl 3 rfl) ?_
  refine y_icmp_ge C xt5 xt4 dX0_makeBridgesTo_52 (tgt := 81) (by decide) (fun c1 => ?_) (fun c1 => ?_)
  · have h := h.1 c1
    obtain ⟨x_2, e2⟩ : ∃ z : Int, z = w32 (x2 + 1) := ⟨_, rfl⟩
    have h := h x_2 e2
    obtain ⟨v2, t2, g2⟩ : ∃ z : Int32, z.toInt = x_2 ∧ xv2 + Int32.ofInt 1 = z := ⟨_, (ti_inc xt2 ⟨by decide, by decide⟩).trans e2.symm, rfl⟩
    refine lv_iinc (v := v2) (lv' := [(2, .int v2), (0, .ref (G.2.2 1034)), (1, .int xv1), (4, .int xv4), (5, .int xv5)]) C.1.1 C.1.2.1 dX0_makeBridgesTo_81 hl (k := 2) rfl g2 (by decide) rfl (fun ls hl => ?_)
    refine lv_goto (tgt := 2) C.1.1 C.1.2.1 dX0_makeBridgesTo_84 (by decide) ?_
    exact hP2 t2 hw hS (lv_sub hl [1, 2, 0] rfl) h
  · have h := h.2 c1
    refine lv_aload_n C.1.1 C.1.2.1 dX0_makeBridgesTo_55 rfl (lv_at hl 0 rfl) ?_
    obtain ⟨x_3, e3⟩ : ∃ z : Int, z = S 1034 0 := ⟨_, rfl⟩
    obtain ⟨o3, h⟩ := h x_3 e3
    refine y_getO C fl_X0_18 hw (ock_0 SB) rfl e3 o3 dX0_makeBridgesTo_56 ?_
    refine lv_iload_n C.1.1 C.1.2.1 dX0_makeBridgesTo_59 rfl (lv_at hl 1 rfl) ?_
    refine lv_iload C.1.1 C.1.2.1 dX0_makeBridgesTo_60 (lv_at hl 4 rfl) ?_
    refine y_cVIp C (As := [.int xv1, .int xv5]) (rest := []) ml_X0_162 (kX2_hasOverride l G SB S o3 xt1 xt5 h) (oc_of SB o3) (T := TX2) (N := 9) rfl (by decide) ⟨(Nat.le_of_ble_eq_true rfl), (Nat.le_of_ble_eq_true rfl)⟩ hl.1 rfl rfl (Nat.le_of_ble_eq_true rfl) hw hS dX0_makeBridgesTo_62 (fun v4 x_4 H locs t4 h hw hS => ?_)
    refine y_if_eq C t4 dX0_makeBridgesTo_65 (tgt := 75) (by decide) (fun c5 => ?_) (fun c5 => ?_)
    · have h := h.1 c5
      obtain ⟨x_6, e6⟩ : ∃ z : Int, z = w32 (x5 + 1) := ⟨_, rfl⟩
      have h := h x_6 e6
      obtain ⟨v6, t6, g6⟩ : ∃ z : Int32, z.toInt = x_6 ∧ xv5 + Int32.ofInt 1 = z := ⟨_, (ti_inc xt5 ⟨by decide, by decide⟩).trans e6.symm, rfl⟩
      refine lv_iinc (v := v6) (lv' := [(5, .int v6), (0, .ref (G.2.2 1034)), (1, .int xv1), (2, .int xv2), (4, .int xv4)]) C.1.1 C.1.2.1 dX0_makeBridgesTo_75 hl (k := 4) rfl g6 (by decide) rfl (fun ls hl => ?_)
      refine lv_goto (tgt := 48) C.1.1 C.1.2.1 dX0_makeBridgesTo_78 (by decide) ?_
      exact hP48 t6 hw hS (lv_sub hl [1, 2, 3, 4, 0] rfl) h
    · have h := h.2 c5
      refine lv_aload_n C.1.1 C.1.2.1 dX0_makeBridgesTo_68 rfl (lv_at hl 0 rfl) ?_
      refine lv_iload_n C.1.1 C.1.2.1 dX0_makeBridgesTo_69 rfl (lv_at hl 1 rfl) ?_
      refine lv_iload C.1.1 C.1.2.1 dX0_makeBridgesTo_70 (lv_at hl 4 rfl) ?_
      refine y_cVV C (As := [.int xv1, .int xv5]) (rest := []) ml_X0_206 (kX0_makeBridge l G SB S xt1 xt5 h) (ock_0 SB) (T := TX0) (N := 5) rfl (by decide) ⟨(Nat.le_of_ble_eq_true rfl), (Nat.le_of_ble_eq_true rfl)⟩ hl.1 rfl rfl (Nat.le_of_ble_eq_true rfl) hw hS dX0_makeBridgesTo_72 (fun S_7 H locs h hw hS => ?_)
      obtain ⟨x_8, e8⟩ : ∃ z : Int, z = w32 (x5 + 1) := ⟨_, rfl⟩
      have h := h x_8 e8
      obtain ⟨v8, t8, g8⟩ : ∃ z : Int32, z.toInt = x_8 ∧ xv5 + Int32.ofInt 1 = z := ⟨_, (ti_inc xt5 ⟨by decide, by decide⟩).trans e8.symm, rfl⟩
      refine lv_iinc (v := v8) (lv' := [(5, .int v8), (0, .ref (G.2.2 1034)), (1, .int xv1), (2, .int xv2), (4, .int xv4)]) C.1.1 C.1.2.1 dX0_makeBridgesTo_75 hl (k := 4) rfl g8 (by decide) rfl (fun ls hl => ?_)
      refine lv_goto (tgt := 48) C.1.1 C.1.2.1 dX0_makeBridgesTo_78 (by decide) ?_
      exact hP48 t8 hw hS (lv_sub hl [1, 2, 3, 4, 0] rfl) h
set_option maxHeartbeats 4000000 in
set_option maxRecDepth 10000 in
theorem uX0_makeBridgesTo_48 {p : Program} {l : Launch} {e : Env} {s : State} {m : MethodId} {args : Array Value} {below : List Frame} {meth : Method} {c : Code} {G : GG} {SB : St} (C : Cx p s m args meth c G RX0 cX0_makeBridgesTo 6 none) {S : St} {H : Heap} {locs : List Loc} {ls : Array Slot} {P2 : Int → St → Prop} {k : St → Prop} (hw : Wd G ((injC SB) S) H) (hS : va_S (AG G) s.heap H locs) {xv1 : Int32} {x1 : Int} (xt1 : xv1.toInt = x1) {xv2 : Int32} {x2 : Int} (xt2 : xv2.toInt = x2) {xv4 : Int32} {x4 : Int} (xt4 : xv4.toInt = x4) {xv5 : Int32} {x5 : Int} (xt5 : xv5.toInt = x5) (hl : lv_has ls 6 [(0, .ref (G.2.2 1034)), (1, .int xv1), (2, .int xv2), (4, .int xv4), (5, .int xv5)]) (hP2 : ∀ {H : Heap} {locs : List Loc} {ls : Array Slot} {Sy : St} {yv2 : Int32} {y2 : Int}, yv2.toInt = y2 → Wd G ((injC SB) Sy) H → va_S (AG G) s.heap H locs → lv_has ls 6 [(0, .ref (G.2.2 1034)), (1, .int xv1), (2, .int yv2)] → P2 y2 Sy → W p l e (rmF 2 48) s m args below meth c H locs 0 0 (MQ below (QcV G (injC SB) k) args s 0 0 (AG G)) (F0 m 2 ls [])) (h : wX0_makeBridgesTo_48 S x1 x2 x4 x5 P2 k) : W p l e (rmF 2 48) s m args below meth c H locs 0 0 (MQ below (QcV G (injC SB) k) args s 0 0 (AG G)) (F0 m 48 ls []) := by
  have key : ∀ (n : Nat) {H : Heap} {locs : List Loc} {ls : Array Slot} {S : St} {xv5 : Int32} {x5 : Int}, xv5.toInt = x5 → Wd G ((injC SB) S) H → va_S (AG G) s.heap H locs → lv_has ls 6 [(0, .ref (G.2.2 1034)), (1, .int xv1), (2, .int xv2), (4, .int xv4), (5, .int xv5)] → itP (fun (P : Int × St → Prop) (a : Int × St) => wX0_makeBridgesTo_48_b a.2 x1 x2 x4 a.1 P2 (fun b0 b1 => P (b0, b1)) k) n (x5, S) → W p l e (rmF 2 48) s m args below meth c H locs 0 0 (MQ below (QcV G (injC SB) k) args s 0 0 (AG G)) (F0 m 48 ls []) := by
    intro n
    induction n with
    | zero => intro H locs ls S xv5 x5 xt5 hw hS hl h; exact h.elim
    | succ n ih =>
      intro H locs ls S xv5 x5 xt5 hw hS hl h
      exact uX0_makeBridgesTo_48_b C hw hS xt1 xt2 xt4 xt5 hl hP2 (P48 := fun b0 b1 => itP _ n (b0, b1)) (fun q0 hw hS hl h => ih q0 hw hS hl h) h
  obtain ⟨n, hn⟩ := h
  exact key n xt5 hw hS hl hn
set_option maxHeartbeats 4000000 in
set_option maxRecDepth 10000 in
theorem uX0_makeBridgesTo_2_b {p : Program} {l : Launch} {e : Env} {s : State} {m : MethodId} {args : Array Value} {below : List Frame} {meth : Method} {c : Code} {G : GG} {SB : St} (C : Cx p s m args meth c G RX0 cX0_makeBridgesTo 6 none) {S : St} {H : Heap} {locs : List Loc} {ls : Array Slot}  {P2 : Int → St → Prop} {k : St → Prop} (hw : Wd G ((injC SB) S) H) (hS : va_S (AG G) s.heap H locs) {xv1 : Int32} {x1 : Int} (xt1 : xv1.toInt = x1) {xv2 : Int32} {x2 : Int} (xt2 : xv2.toInt = x2) (hl : lv_has ls 6 [(0, .ref (G.2.2 1034)), (1, .int xv1), (2, .int xv2)])  (hP2 : ∀ {H : Heap} {locs : List Loc} {ls : Array Slot} {Sy : St} {yv2 : Int32} {y2 : Int}, yv2.toInt = y2 → Wd G ((injC SB) Sy) H → va_S (AG G) s.heap H locs → lv_has ls 6 [(0, .ref (G.2.2 1034)), (1, .int xv1), (2, .int yv2)] → P2 y2 Sy → W p l e (rmF 2 48) s m args below meth c H locs 0 0 (MQ below (QcV G (injC SB) k) args s 0 0 (AG G)) (F0 m 2 ls [])) (h : wX0_makeBridgesTo_2_b S x1 x2 P2 k) : W p l e (rmF 2 48) s m args below meth c H locs 0 0 (MQ below (QcV G (injC SB) k) args s 0 0 (AG G)) (F0 m 2 ls []) := by
  refine lv_iload_n C.1.1 C.1.2.1 dX0_makeBridgesTo_2 rfl (lv_at hl 2 rfl) ?_
  refine lv_aload_n C.1.1 C.1.2.1 dX0_makeBridgesTo_3 rfl (lv_at hl 0 rfl) ?_
  obtain ⟨x_1, e1⟩ : ∃ z : Int, z = S 1034 1 := ⟨_, rfl⟩
  obtain ⟨o1, h⟩ := h x_1 e1
  refine y_getO C fl_X0_28 hw (ock_0 SB) rfl e1 o1 dX0_makeBridgesTo_4 ?_
  refine y_getI C fl_X0_89 hw (oc_of SB o1) rfl dX0_makeBridgesTo_7 (fun v2 t2 => ?_)
  refine y_icmp_ge C xt2 t2 dX0_makeBridgesTo_10 (tgt := 87) (by decide) (fun c3 => ?_) (fun c3 => ?_)
  · have h := h.1 c3
    exact y_vret C hw hS h dX0_makeBridgesTo_87
  · have h := h.2 c3
    refine lv_aload_n C.1.1 C.1.2.1 dX0_makeBridgesTo_13 rfl (lv_at hl 0 rfl) ?_
    obtain ⟨x_4, e4⟩ : ∃ z : Int, z = S 1034 0 := ⟨_, rfl⟩
    obtain ⟨o4, h⟩ := h x_4 e4
    refine y_getO C fl_X0_18 hw (ock_0 SB) rfl e4 o4 dX0_makeBridgesTo_14 ?_
    refine y_getA C fl_X0_22 hw (oc_of SB o4) rfl (o := 1) rfl dX0_makeBridgesTo_17 ?_
    refine lv_aload_n C.1.1 C.1.2.1 dX0_makeBridgesTo_20 rfl (lv_at hl 0 rfl) ?_
    obtain ⟨x_6, e6⟩ : ∃ z : Int, z = S 1034 1 := ⟨_, rfl⟩
    obtain ⟨o6, h⟩ := h x_6 e6
    refine y_getO C fl_X0_28 hw (ock_0 SB) rfl e6 o6 dX0_makeBridgesTo_21 ?_
    refine y_getA C fl_X0_92 hw (oc_of SB o6) rfl (o := 4) rfl dX0_makeBridgesTo_24 ?_
    refine lv_iload_n C.1.1 C.1.2.1 dX0_makeBridgesTo_27 rfl (lv_at hl 2 rfl) ?_
    obtain ⟨b8, h⟩ := h
    refine y_iald C hw (ac_6_13 SB o6) xt2 b8 dX0_makeBridgesTo_28 (fun v8 t8 => ?_)
    obtain ⟨b9, h⟩ := h
    obtain ⟨x_9, e9⟩ : ∃ z : Int, z = x_4 + 6 + 6 * (S (x_6 + 4) x2) := ⟨_, rfl⟩
    have h := h x_9 e9
    have o9 : isO 6 x_9 := isO_ty o4 b9 e9
    refine y_tyO C hw o4 t8 b9 e9 dX0_makeBridgesTo_29 ?_
    refine lv_astore_n (lv' := [(3, .ref (G.2.2 (x_9).toNat)), (0, .ref (G.2.2 1034)), (1, .int xv1), (2, .int xv2)]) C.1.1 C.1.2.1 dX0_makeBridgesTo_30 rfl hl (by decide) rfl (fun ls hl => ?_)
    refine lv_aload_n C.1.1 C.1.2.1 dX0_makeBridgesTo_31 rfl (lv_at hl 0 rfl) ?_
    refine y_getI C fl_X0_57 hw (oc_of SB o9) rfl dX0_makeBridgesTo_32 (fun v10 t10 => ?_)
    refine lv_aload_n C.1.1 C.1.2.1 dX0_makeBridgesTo_35 rfl (lv_at hl 0 rfl) ?_
    refine y_getI C fl_X0_205 hw (oc_of SB o9) rfl dX0_makeBridgesTo_36 (fun v11 t11 => ?_)
    refine y_iadd C t10 t11 dX0_makeBridgesTo_39 (fun v12 t12 => ?_)
    obtain ⟨x_13, e13⟩ : ∃ z : Int, z = w32 (S x_9 16 + S x_9 17) := ⟨_, rfl⟩
    have h := h x_13 e13
    have t13 := t12.trans e13.symm
    refine lv_istore (lv' := [(4, .int v12), (3, .ref (G.2.2 (x_9).toNat)), (0, .ref (G.2.2 1034)), (1, .int xv1), (2, .int xv2)]) C.1.1 C.1.2.1 dX0_makeBridgesTo_40 hl (by decide) rfl (fun ls hl => ?_)
    refine lv_aload_n C.1.1 C.1.2.1 dX0_makeBridgesTo_42 rfl (lv_at hl 1 rfl) ?_
    refine y_getI C fl_X0_57 hw (oc_of SB o9) rfl dX0_makeBridgesTo_43 (fun v14 t14 => ?_)
    obtain ⟨x_15, e15⟩ : ∃ z : Int, z = S x_9 16 := ⟨_, rfl⟩
    have h := h x_15 e15
    have t15 := t14.trans e15.symm
    refine lv_istore (lv' := [(5, .int v14), (4, .int v12), (3, .ref (G.2.2 (x_9).toNat)), (0, .ref (G.2.2 1034)), (1, .int xv1), (2, .int xv2)]) C.1.1 C.1.2.1 dX0_makeBridgesTo_46 hl (by decide) rfl (fun ls hl => ?_)
    exact uX0_makeBridgesTo_48 C hw hS xt1 xt2 t13 t15 (lv_sub hl [3, 4, 5, 1, 0] rfl) hP2 h
set_option maxHeartbeats 4000000 in
set_option maxRecDepth 10000 in
theorem uX0_makeBridgesTo_2 {p : Program} {l : Launch} {e : Env} {s : State} {m : MethodId} {args : Array Value} {below : List Frame} {meth : Method} {c : Code} {G : GG} {SB : St} (C : Cx p s m args meth c G RX0 cX0_makeBridgesTo 6 none) {S : St} {H : Heap} {locs : List Loc} {ls : Array Slot}  {k : St → Prop} (hw : Wd G ((injC SB) S) H) (hS : va_S (AG G) s.heap H locs) {xv1 : Int32} {x1 : Int} (xt1 : xv1.toInt = x1) {xv2 : Int32} {x2 : Int} (xt2 : xv2.toInt = x2) (hl : lv_has ls 6 [(0, .ref (G.2.2 1034)), (1, .int xv1), (2, .int xv2)])  (h : wX0_makeBridgesTo_2 S x1 x2 k) : W p l e (rmF 2 48) s m args below meth c H locs 0 0 (MQ below (QcV G (injC SB) k) args s 0 0 (AG G)) (F0 m 2 ls []) := by
  have key : ∀ (n : Nat) {H : Heap} {locs : List Loc} {ls : Array Slot} {S : St} {xv2 : Int32} {x2 : Int}, xv2.toInt = x2 → Wd G ((injC SB) S) H → va_S (AG G) s.heap H locs → lv_has ls 6 [(0, .ref (G.2.2 1034)), (1, .int xv1), (2, .int xv2)] → itP (fun (P : Int × St → Prop) (a : Int × St) => wX0_makeBridgesTo_2_b a.2 x1 a.1 (fun b0 b1 => P (b0, b1)) k) n (x2, S) → W p l e (rmF 2 48) s m args below meth c H locs 0 0 (MQ below (QcV G (injC SB) k) args s 0 0 (AG G)) (F0 m 2 ls []) := by
    intro n
    induction n with
    | zero => intro H locs ls S xv2 x2 xt2 hw hS hl h; exact h.elim
    | succ n ih =>
      intro H locs ls S xv2 x2 xt2 hw hS hl h
      exact uX0_makeBridgesTo_2_b C hw hS xt1 xt2 hl  (P2 := fun b0 b1 => itP _ n (b0, b1)) (fun q0 hw hS hl h => ih q0 hw hS hl h) h
  obtain ⟨n, hn⟩ := h
  exact key n xt2 hw hS hl hn
set_option maxHeartbeats 4000000 in
set_option maxRecDepth 10000 in
theorem uX0_makeBridgesTo_0 {p : Program} {l : Launch} {e : Env} {s : State} {m : MethodId} {args : Array Value} {below : List Frame} {meth : Method} {c : Code} {G : GG} {SB : St} (C : Cx p s m args meth c G RX0 cX0_makeBridgesTo 6 none) {S : St} {H : Heap} {locs : List Loc} {ls : Array Slot}  {k : St → Prop} (hw : Wd G ((injC SB) S) H) (hS : va_S (AG G) s.heap H locs) {xv1 : Int32} {x1 : Int} (xt1 : xv1.toInt = x1) (hl : lv_has ls 6 [(0, .ref (G.2.2 1034)), (1, .int xv1)])  (h : wX0_makeBridgesTo_0 S x1 k) : W p l e (rmF 2 48) s m args below meth c H locs 0 0 (MQ below (QcV G (injC SB) k) args s 0 0 (AG G)) (F0 m 0 ls []) := by
  refine y_iconst C dX0_makeBridgesTo_0 ⟨by decide, by decide⟩ (fun v1 t1 => ?_)
  refine lv_istore_n (lv' := [(2, .int v1), (0, .ref (G.2.2 1034)), (1, .int xv1)]) C.1.1 C.1.2.1 dX0_makeBridgesTo_1 rfl hl (by decide) rfl (fun ls hl => ?_)
  exact uX0_makeBridgesTo_2 C hw hS xt1 t1 (lv_sub hl [1, 2, 0] rfl)  h
theorem kX0_makeBridgesTo (l : Launch) (G : GG) (SB S : St) {xv1 : Int32} {x1 : Int} (xt1 : xv1.toInt = x1) {k : St → Prop} (h : wX0_makeBridgesTo S x1 k) : CnV l yX0_makeBridgesTo cX0_makeBridgesTo 6 none 2 48 G (injC SB) [.ref (G.2.2 1034), .int xv1] S k :=
  cn_body (by decide +kernel) (Nat.le_of_ble_eq_true rfl) (fun p e s m args below meth c ls C hw hl => uX0_makeBridgesTo_0 C hw va_S.rf xt1 (lv_sub hl [0, 1] rfl) h)
set_option maxHeartbeats 4000000 in
set_option maxRecDepth 10000 in
theorem uX0_makeBridges_22_b {p : Program} {l : Launch} {e : Env} {s : State} {m : MethodId} {args : Array Value} {below : List Frame} {meth : Method} {c : Code} {G : GG} {SB : St} (C : Cx p s m args meth c G RX0 cX0_makeBridges 3 none) {S : St} {H : Heap} {locs : List Loc} {ls : Array Slot}  {P22 : Int → St → Prop} {k : St → Prop} (hw : Wd G ((injC SB) S) H) (hS : va_S (AG G) s.heap H locs) {xv1 : Int32} {x1 : Int} (xt1 : xv1.toInt = x1) (hl : lv_has ls 3 [(0, .ref (G.2.2 1034)), (1, .int xv1)])  (hP22 : ∀ {H : Heap} {locs : List Loc} {ls : Array Slot} {Sy : St} {yv1 : Int32} {y1 : Int}, yv1.toInt = y1 → Wd G ((injC SB) Sy) H → va_S (AG G) s.heap H locs → lv_has ls 3 [(0, .ref (G.2.2 1034)), (1, .int yv1)] → P22 y1 Sy → W p l e (rmF 3 73) s m args below meth c H locs 0 0 (MQ below (QcV G (injC SB) k) args s 0 0 (AG G)) (F0 m 22 ls [])) (h : wX0_makeBridges_22_b S x1 P22 k) : W p l e (rmF 3 73) s m args below meth c H locs 0 0 (MQ below (QcV G (injC SB) k) args s 0 0 (AG G)) (F0 m 22 ls []) := by
  refine lv_iload_n C.1.1 C.1.2.1 dX0_makeBridges_22 rfl (lv_at hl 1 rfl) ?_
  refine lv_aload_n C.1.1 C.1.2.1 dX0_makeBridges_23 rfl (lv_at hl 0 rfl) ?_
  obtain ⟨x_1, e1⟩ : ∃ z : Int, z = S 1034 0 := ⟨_, rfl⟩
  obtain ⟨o1, h⟩ := h x_1 e1
  refine y_getO C fl_X0_18 hw (ock_0 SB) rfl e1 o1 dX0_makeBridges_24 ?_
  refine y_getI C fl_X0_63 hw (oc_of SB o1) rfl dX0_makeBridges_27 (fun v2 t2 => ?_)
  refine y_icmp_ge C xt1 t2 dX0_makeBridges_30 (tgt := 69) (by decide) (fun c3 => ?_) (fun c3 => ?_)
  · have h := h.1 c3
    exact y_vret C hw hS h dX0_makeBridges_69
  · have h := h.2 c3
    refine lv_aload_n C.1.1 C.1.2.1 dX0_makeBridges_33 rfl (lv_at hl 0 rfl) ?_
    obtain ⟨x_4, e4⟩ : ∃ z : Int, z = S 1034 0 := ⟨_, rfl⟩
    obtain ⟨o4, h⟩ := h x_4 e4
    refine y_getO C fl_X0_18 hw (ock_0 SB) rfl e4 o4 dX0_makeBridges_34 ?_
    refine y_getA C fl_X0_66 hw (oc_of SB o4) rfl (o := 2) rfl dX0_makeBridges_37 ?_
    refine lv_iload_n C.1.1 C.1.2.1 dX0_makeBridges_40 rfl (lv_at hl 1 rfl) ?_
    obtain ⟨b6, h⟩ := h
    obtain ⟨x_6, e6⟩ : ∃ z : Int, z = x_4 + 150 + 3 * x1 := ⟨_, rfl⟩
    have h := h x_6 e6
    have o6 : isO 3 x_6 := isO_mb o4 b6 e6
    refine y_mbO C hw o4 xt1 b6 e6 dX0_makeBridges_41 ?_
    refine lv_astore_n (lv' := [(2, .ref (G.2.2 (x_6).toNat)), (0, .ref (G.2.2 1034)), (1, .int xv1)]) C.1.1 C.1.2.1 dX0_makeBridges_42 rfl hl (by decide) rfl (fun ls hl => ?_)
    refine lv_aload_n C.1.1 C.1.2.1 dX0_makeBridges_43 rfl (lv_at hl 0 rfl) ?_
    refine y_cVIp C (As := []) (rest := []) ml_X0_132 (kX3_isFree l G SB S o6 h) (oc_of SB o6) (T := TX3) (N := 8) rfl (by decide) ⟨(Nat.le_of_ble_eq_true rfl), (Nat.le_of_ble_eq_true rfl)⟩ hl.1 rfl rfl (Nat.le_of_ble_eq_true rfl) hw hS dX0_makeBridges_44 (fun v7 x_7 H locs t7 h hw hS => ?_)
    refine y_if_eq C t7 dX0_makeBridges_47 (tgt := 63) (by decide) (fun c8 => ?_) (fun c8 => ?_)
    · have h := h.1 c8
      obtain ⟨x_9, e9⟩ : ∃ z : Int, z = w32 (x1 + 1) := ⟨_, rfl⟩
      have h := h x_9 e9
      obtain ⟨v9, t9, g9⟩ : ∃ z : Int32, z.toInt = x_9 ∧ xv1 + Int32.ofInt 1 = z := ⟨_, (ti_inc xt1 ⟨by decide, by decide⟩).trans e9.symm, rfl⟩
      refine lv_iinc (v := v9) (lv' := [(1, .int v9), (2, .ref (G.2.2 (x_6).toNat)), (0, .ref (G.2.2 1034))]) C.1.1 C.1.2.1 dX0_makeBridges_63 hl (k := 2) rfl g9 (by decide) rfl (fun ls hl => ?_)
      refine lv_goto (tgt := 22) C.1.1 C.1.2.1 dX0_makeBridges_66 (by decide) ?_
      exact hP22 t9 hw hS (lv_sub hl [2, 0] rfl) h
    · have h := h.2 c8
      refine lv_aload_n C.1.1 C.1.2.1 dX0_makeBridges_50 rfl (lv_at hl 0 rfl) ?_
      refine y_getI C fl_X0_199 hw (oc_of SB o6) rfl dX0_makeBridges_51 (fun v10 t10 => ?_)
      refine y_iconst C dX0_makeBridges_54 ⟨by decide, by decide⟩ (fun v11 t11 => ?_)
      refine y_icmp_eq C t10 t11 dX0_makeBridges_55 (tgt := 63) (by decide) (fun c12 => ?_) (fun c12 => ?_)
      · have h := h.1 c12
        obtain ⟨x_13, e13⟩ : ∃ z : Int, z = w32 (x1 + 1) := ⟨_, rfl⟩
        have h := h x_13 e13
        obtain ⟨v13, t13, g13⟩ : ∃ z : Int32, z.toInt = x_13 ∧ xv1 + Int32.ofInt 1 = z := ⟨_, (ti_inc xt1 ⟨by decide, by decide⟩).trans e13.symm, rfl⟩
        refine lv_iinc (v := v13) (lv' := [(1, .int v13), (2, .ref (G.2.2 (x_6).toNat)), (0, .ref (G.2.2 1034))]) C.1.1 C.1.2.1 dX0_makeBridges_63 hl (k := 2) rfl g13 (by decide) rfl (fun ls hl => ?_)
        refine lv_goto (tgt := 22) C.1.1 C.1.2.1 dX0_makeBridges_66 (by decide) ?_
        exact hP22 t13 hw hS (lv_sub hl [2, 0] rfl) h
      · have h := h.2 c12
        refine lv_aload_n C.1.1 C.1.2.1 dX0_makeBridges_58 rfl (lv_at hl 1 rfl) ?_
        refine lv_iload_n C.1.1 C.1.2.1 dX0_makeBridges_59 rfl (lv_at hl 2 rfl) ?_
        refine y_cVV C (As := [.int xv1]) (rest := []) ml_X0_202 (kX0_makeBridgesTo l G SB S xt1 h) (ock_0 SB) (T := TX0) (N := 5) rfl (by decide) ⟨(Nat.le_of_ble_eq_true rfl), (Nat.le_of_ble_eq_true rfl)⟩ hl.1 rfl rfl (Nat.le_of_ble_eq_true rfl) hw hS dX0_makeBridges_60 (fun S_14 H locs h hw hS => ?_)
        obtain ⟨x_15, e15⟩ : ∃ z : Int, z = w32 (x1 + 1) := ⟨_, rfl⟩
        have h := h x_15 e15
        obtain ⟨v15, t15, g15⟩ : ∃ z : Int32, z.toInt = x_15 ∧ xv1 + Int32.ofInt 1 = z := ⟨_, (ti_inc xt1 ⟨by decide, by decide⟩).trans e15.symm, rfl⟩
        refine lv_iinc (v := v15) (lv' := [(1, .int v15), (2, .ref (G.2.2 (x_6).toNat)), (0, .ref (G.2.2 1034))]) C.1.1 C.1.2.1 dX0_makeBridges_63 hl (k := 2) rfl g15 (by decide) rfl (fun ls hl => ?_)
        refine lv_goto (tgt := 22) C.1.1 C.1.2.1 dX0_makeBridges_66 (by decide) ?_
        exact hP22 t15 hw hS (lv_sub hl [2, 0] rfl) h
set_option maxHeartbeats 4000000 in
set_option maxRecDepth 10000 in
theorem uX0_makeBridges_22 {p : Program} {l : Launch} {e : Env} {s : State} {m : MethodId} {args : Array Value} {below : List Frame} {meth : Method} {c : Code} {G : GG} {SB : St} (C : Cx p s m args meth c G RX0 cX0_makeBridges 3 none) {S : St} {H : Heap} {locs : List Loc} {ls : Array Slot}  {k : St → Prop} (hw : Wd G ((injC SB) S) H) (hS : va_S (AG G) s.heap H locs) {xv1 : Int32} {x1 : Int} (xt1 : xv1.toInt = x1) (hl : lv_has ls 3 [(0, .ref (G.2.2 1034)), (1, .int xv1)])  (h : wX0_makeBridges_22 S x1 k) : W p l e (rmF 3 73) s m args below meth c H locs 0 0 (MQ below (QcV G (injC SB) k) args s 0 0 (AG G)) (F0 m 22 ls []) := by
  have key : ∀ (n : Nat) {H : Heap} {locs : List Loc} {ls : Array Slot} {S : St} {xv1 : Int32} {x1 : Int}, xv1.toInt = x1 → Wd G ((injC SB) S) H → va_S (AG G) s.heap H locs → lv_has ls 3 [(0, .ref (G.2.2 1034)), (1, .int xv1)] → itP (fun (P : Int × St → Prop) (a : Int × St) => wX0_makeBridges_22_b a.2 a.1 (fun b0 b1 => P (b0, b1)) k) n (x1, S) → W p l e (rmF 3 73) s m args below meth c H locs 0 0 (MQ below (QcV G (injC SB) k) args s 0 0 (AG G)) (F0 m 22 ls []) := by
    intro n
    induction n with
    | zero => intro H locs ls S xv1 x1 xt1 hw hS hl h; exact h.elim
    | succ n ih =>
      intro H locs ls S xv1 x1 xt1 hw hS hl h
      exact uX0_makeBridges_22_b C hw hS xt1 hl  (P22 := fun b0 b1 => itP _ n (b0, b1)) (fun q0 hw hS hl h => ih q0 hw hS hl h) h
  obtain ⟨n, hn⟩ := h
  exact key n xt1 hw hS hl hn
set_option maxHeartbeats 4000000 in
set_option maxRecDepth 10000 in
theorem uX0_makeBridges_0 {p : Program} {l : Launch} {e : Env} {s : State} {m : MethodId} {args : Array Value} {below : List Frame} {meth : Method} {c : Code} {G : GG} {SB : St} (C : Cx p s m args meth c G RX0 cX0_makeBridges 3 none) {S : St} {H : Heap} {locs : List Loc} {ls : Array Slot}  {k : St → Prop} (hw : Wd G ((injC SB) S) H) (hS : va_S (AG G) s.heap H locs)  (hl : lv_has ls 3 [(0, .ref (G.2.2 1034))])  (h : wX0_makeBridges_0 S k) : W p l e (rmF 3 73) s m args below meth c H locs 0 0 (MQ below (QcV G (injC SB) k) args s 0 0 (AG G)) (F0 m 0 ls []) := by
  refine lv_aload_n C.1.1 C.1.2.1 dX0_makeBridges_0 rfl (lv_at hl 0 rfl) ?_
  obtain ⟨x_1, e1⟩ : ∃ z : Int, z = S 1034 1 := ⟨_, rfl⟩
  obtain ⟨o1, h⟩ := h x_1 e1
  refine y_getO C fl_X0_28 hw (ock_0 SB) rfl e1 o1 dX0_makeBridges_1 ?_
  refine lv_aload_n C.1.1 C.1.2.1 dX0_makeBridges_4 rfl (lv_at hl 0 rfl) ?_
  obtain ⟨x_2, e2⟩ : ∃ z : Int, z = S 1034 0 := ⟨_, rfl⟩
  obtain ⟨o2, h⟩ := h x_2 e2
  refine y_getO C fl_X0_18 hw (ock_0 SB) rfl e2 o2 dX0_makeBridges_5 ?_
  refine y_getI C fl_X0_193 hw (oc_of SB o2) rfl dX0_makeBridges_8 (fun v3 t3 => ?_)
  obtain ⟨S_4, e4⟩ : ∃ z : St, z = up S x_1 18 (S x_2 7) := ⟨_, rfl⟩
  have h := h S_4 e4
  refine y_putI C fl_X0_196 fp_6_18 hw hS (oc_of SB o1) rfl t3 dX0_makeBridges_11 (fun H locs hw hS => ?_)
  have hw : Wd G ((injC SB) S_4) H := by rw [e4]; exact hw
  refine lv_aload_n C.1.1 C.1.2.1 dX0_makeBridges_14 rfl (lv_at hl 0 rfl) ?_
  obtain ⟨x_5, e5⟩ : ∃ z : Int, z = S_4 1034 1 := ⟨_, rfl⟩
  obtain ⟨o5, h⟩ := h x_5 e5
  refine y_getO C fl_X0_28 hw (ock_0 SB) rfl e5 o5 dX0_makeBridges_15 ?_
  refine y_getI C fl_X0_57 hw (oc_of SB o5) rfl dX0_makeBridges_18 (fun v6 t6 => ?_)
  obtain ⟨x_7, e7⟩ : ∃ z : Int, z = S_4 x_5 16 := ⟨_, rfl⟩
  have h := h x_7 e7
  have t7 := t6.trans e7.symm
  refine lv_istore_n (lv' := [(1, .int v6), (0, .ref (G.2.2 1034))]) C.1.1 C.1.2.1 dX0_makeBridges_21 rfl hl (by decide) rfl (fun ls hl => ?_)
  exact uX0_makeBridges_22 C hw hS t7 (lv_sub hl [1, 0] rfl)  h
theorem kX0_makeBridges (l : Launch) (G : GG) (SB S : St)  {k : St → Prop} (h : wX0_makeBridges S k) : CnV l yX0_makeBridges cX0_makeBridges 3 none 3 73 G (injC SB) [.ref (G.2.2 1034)] S k :=
  cn_body (by decide +kernel) (Nat.le_of_ble_eq_true rfl) (fun p e s m args below meth c ls C hw hl => uX0_makeBridges_0 C hw va_S.rf  (lv_sub hl [0] rfl) h)
set_option maxHeartbeats 4000000 in
set_option maxRecDepth 10000 in
theorem uX0_close_0 {p : Program} {l : Launch} {e : Env} {s : State} {m : MethodId} {args : Array Value} {below : List Frame} {meth : Method} {c : Code} {G : GG} {SB : St} (C : Cx p s m args meth c G RX0 cX0_close 3 (some .int)) {S : St} {H : Heap} {locs : List Loc} {ls : Array Slot}  {k : Int → St → Prop} (hw : Wd G ((injC SB) S) H) (hS : va_S (AG G) s.heap H locs) {x1 : Int} (xo1 : isO 2 x1) {x2 : Int} (xo2 : isO 6 x2) (hl : lv_has ls 3 [(0, .ref (G.2.2 1034)), (1, .ref (G.2.2 (x1).toNat)), (2, .ref (G.2.2 (x2).toNat))])  (h : wX0_close_0 S x1 x2 k) : W p l e (rmF 4 95) s m args below meth c H locs 0 0 (MQ below (QcI G (injC SB) k) args s 0 0 (AG G)) (F0 m 0 ls []) := by
  refine lv_aload_n C.1.1 C.1.2.1 dX0_close_0 rfl (lv_at hl 0 rfl) ?_
  refine lv_aload_n C.1.1 C.1.2.1 dX0_close_1 rfl (lv_at hl 1 rfl) ?_
  obtain ⟨S_1, e1⟩ : ∃ z : St, z = up S 1034 0 x1 := ⟨_, rfl⟩
  have h := h S_1 e1
  refine y_putR C fl_X0_18 fp_0_0 hw hS (ock_0 SB) rfl xo1.1 dX0_close_2 (fun H locs hw hS => ?_)
  have hw : Wd G ((injC SB) S_1) H := by rw [e1]; exact hw
  refine lv_aload_n C.1.1 C.1.2.1 dX0_close_5 rfl (lv_at hl 0 rfl) ?_
  refine lv_aload_n C.1.1 C.1.2.1 dX0_close_6 rfl (lv_at hl 2 rfl) ?_
  obtain ⟨S_2, e2⟩ : ∃ z : St, z = up S_1 1034 1 x2 := ⟨_, rfl⟩
  have h := h S_2 e2
  refine y_putR C fl_X0_28 fp_0_1 hw hS (ock_0 SB) rfl xo2.1 dX0_close_7 (fun H locs hw hS => ?_)
  have hw : Wd G ((injC SB) S_2) H := by rw [e2]; exact hw
  refine lv_aload_n C.1.1 C.1.2.1 dX0_close_10 rfl (lv_at hl 0 rfl) ?_
  refine y_cVIp C (As := []) (rest := []) ml_X0_32 (kX0_hasTwins l G SB S_2  h) (ock_0 SB) (T := TX0) (N := 5) rfl (by decide) ⟨(Nat.le_of_ble_eq_true rfl), (Nat.le_of_ble_eq_true rfl)⟩ hl.1 rfl rfl (Nat.le_of_ble_eq_true rfl) hw hS dX0_close_11 (fun v3 x_3 H locs t3 h hw hS => ?_)
  refine y_if_eq C t3 dX0_close_14 (tgt := 20) (by decide) (fun c4 => ?_) (fun c4 => ?_)
  · have h := h.1 c4
    refine lv_aload_n C.1.1 C.1.2.1 dX0_close_20 rfl (lv_at hl 0 rfl) ?_
    refine y_cVI C (As := []) (rest := []) ml_X0_36 (kX0_gatherAbove l G SB S_2  h) (ock_0 SB) (T := TX0) (N := 5) rfl (by decide) ⟨(Nat.le_of_ble_eq_true rfl), (Nat.le_of_ble_eq_true rfl)⟩ hl.1 rfl rfl (Nat.le_of_ble_eq_true rfl) hw hS dX0_close_21 (fun v5 x_5 S_5 H locs t5 h hw hS => ?_)
    refine y_if_ne C t5 dX0_close_24 (tgt := 30) (by decide) (fun c6 => ?_) (fun c6 => ?_)
    · have h := h.1 c6
      refine lv_aload_n C.1.1 C.1.2.1 dX0_close_30 rfl (lv_at hl 0 rfl) ?_
      refine y_cVV C (As := []) (rest := []) ml_X0_39 (kX0_gatherKinds l G SB S_5  h) (ock_0 SB) (T := TX0) (N := 5) rfl (by decide) ⟨(Nat.le_of_ble_eq_true rfl), (Nat.le_of_ble_eq_true rfl)⟩ hl.1 rfl rfl (Nat.le_of_ble_eq_true rfl) hw hS dX0_close_31 (fun S_7 H locs h hw hS => ?_)
      refine lv_aload_n C.1.1 C.1.2.1 dX0_close_34 rfl (lv_at hl 0 rfl) ?_
      refine y_cVV C (As := []) (rest := []) ml_X0_42 (kX0_gatherFree l G SB S_7  h) (ock_0 SB) (T := TX0) (N := 5) rfl (by decide) ⟨(Nat.le_of_ble_eq_true rfl), (Nat.le_of_ble_eq_true rfl)⟩ hl.1 rfl rfl (Nat.le_of_ble_eq_true rfl) hw hS dX0_close_35 (fun S_8 H locs h hw hS => ?_)
      refine lv_aload_n C.1.1 C.1.2.1 dX0_close_38 rfl (lv_at hl 0 rfl) ?_
      refine y_cVV C (As := []) (rest := []) ml_X0_45 (kX0_markOverrides l G SB S_8  h) (ock_0 SB) (T := TX0) (N := 5) rfl (by decide) ⟨(Nat.le_of_ble_eq_true rfl), (Nat.le_of_ble_eq_true rfl)⟩ hl.1 rfl rfl (Nat.le_of_ble_eq_true rfl) hw hS dX0_close_39 (fun S_9 H locs h hw hS => ?_)
      refine lv_aload_n C.1.1 C.1.2.1 dX0_close_42 rfl (lv_at hl 0 rfl) ?_
      refine y_cVIp C (As := []) (rest := []) ml_X0_48 (kX0_hasWrongOverride l G SB S_9  h) (ock_0 SB) (T := TX0) (N := 5) rfl (by decide) ⟨(Nat.le_of_ble_eq_true rfl), (Nat.le_of_ble_eq_true rfl)⟩ hl.1 rfl rfl (Nat.le_of_ble_eq_true rfl) hw hS dX0_close_43 (fun v10 x_10 H locs t10 h hw hS => ?_)
      refine y_if_eq C t10 dX0_close_46 (tgt := 52) (by decide) (fun c11 => ?_) (fun c11 => ?_)
      · have h := h.1 c11
        refine lv_aload_n C.1.1 C.1.2.1 dX0_close_52 rfl (lv_at hl 0 rfl) ?_
        refine y_cVIp C (As := []) (rest := []) ml_X0_51 (kX0_hasQuarrel l G SB S_9  h) (ock_0 SB) (T := TX0) (N := 5) rfl (by decide) ⟨(Nat.le_of_ble_eq_true rfl), (Nat.le_of_ble_eq_true rfl)⟩ hl.1 rfl rfl (Nat.le_of_ble_eq_true rfl) hw hS dX0_close_53 (fun v12 x_12 H locs t12 h hw hS => ?_)
        refine y_if_eq C t12 dX0_close_56 (tgt := 62) (by decide) (fun c13 => ?_) (fun c13 => ?_)
        · have h := h.1 c13
          refine lv_aload_n C.1.1 C.1.2.1 dX0_close_62 rfl (lv_at hl 0 rfl) ?_
          refine y_cVV C (As := []) (rest := []) ml_X0_54 (kX0_makeBridges l G SB S_9  h) (ock_0 SB) (T := TX0) (N := 5) rfl (by decide) ⟨(Nat.le_of_ble_eq_true rfl), (Nat.le_of_ble_eq_true rfl)⟩ hl.1 rfl rfl (Nat.le_of_ble_eq_true rfl) hw hS dX0_close_63 (fun S_14 H locs h hw hS => ?_)
          refine y_iconst C dX0_close_66 ⟨by decide, by decide⟩ (fun v15 t15 => ?_)
          exact y_iret C hw hS t15 h dX0_close_67
        · have h := h.2 c13
          refine y_bipush C dX0_close_59 ⟨by decide, by decide⟩ (fun v16 t16 => ?_)
          exact y_iret C hw hS t16 h dX0_close_61
      · have h := h.2 c11
        refine y_bipush C dX0_close_49 ⟨by decide, by decide⟩ (fun v17 t17 => ?_)
        exact y_iret C hw hS t17 h dX0_close_51
    · have h := h.2 c6
      refine y_bipush C dX0_close_27 ⟨by decide, by decide⟩ (fun v18 t18 => ?_)
      exact y_iret C hw hS t18 h dX0_close_29
  · have h := h.2 c4
    refine y_bipush C dX0_close_17 ⟨by decide, by decide⟩ (fun v19 t19 => ?_)
    exact y_iret C hw hS t19 h dX0_close_19
theorem kX0_close (l : Launch) (G : GG) (SB S : St) {x1 : Int} (xo1 : isO 2 x1) {x2 : Int} (xo2 : isO 6 x2) {k : Int → St → Prop} (h : wX0_close S x1 x2 k) : CnI l yX0_close cX0_close 3 (some .int) 4 95 G (injC SB) [.ref (G.2.2 1034), .ref (G.2.2 (x1).toNat), .ref (G.2.2 (x2).toNat)] S k :=
  cn_body (by decide +kernel) (Nat.le_of_ble_eq_true rfl) (fun p e s m args below meth c ls C hw hl => uX0_close_0 C hw va_S.rf xo1 xo2 (lv_sub hl [0, 1, 2] rfl) h)
