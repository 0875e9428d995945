/-! by program: the machine meets the models -/
set_option maxHeartbeats 4000000 in
set_option maxRecDepth 10000 in
theorem uX8_findCan_133 {p : Program} {l : Launch} {e : Env} {s : State} {m : MethodId} {args : Array Value} {below : List Frame} {meth : Method} {c : Code} {G : GG} {SB : St} (C : Cx p s m args meth c G RX8 cX8_findCan 6 none) {S : St} {H : Heap} {locs : List Loc} {ls : Array Slot} {P2 : Int → St → Prop} {P12 : Int → St → Prop} {k : St → Prop} (hw : Wd G ((injR SB) S) H) (hS : va_S (AG G) s.heap H locs) {xv1 : Int32} {x1 : Int} (xt1 : xv1.toInt = x1) {xv2 : Int32} {x2 : Int} (xt2 : xv2.toInt = x2) {xv3 : Int32} {x3 : Int} (xt3 : xv3.toInt = x3) {xv4 : Int32} {x4 : Int} (xt4 : xv4.toInt = x4) (hl : lv_has ls 6 [(0, .ref (G.2.2 1042)), (1, .int xv1), (2, .int xv2), (3, .int xv3), (4, .int xv4)]) (hP2 : ∀ {H : Heap} {locs : List Loc} {ls : Array Slot} {Sy : St} {yv1 : Int32} {y1 : Int}, yv1.toInt = y1 → Wd G ((injR SB) Sy) H → va_S (AG G) s.heap H locs → lv_has ls 6 [(0, .ref (G.2.2 1042)), (1, .int yv1)] → P2 y1 Sy → W p l e (rmF 2 43) s m args below meth c H locs 0 0 (MQ below (QcV G (injR SB) k) args s 0 0 (AG G)) (F0 m 2 ls [])) (hP12 : ∀ {H : Heap} {locs : List Loc} {ls : Array Slot} {Sy : St} {yv2 : Int32} {y2 : Int}, yv2.toInt = y2 → Wd G ((injR SB) Sy) H → va_S (AG G) s.heap H locs → lv_has ls 6 [(0, .ref (G.2.2 1042)), (1, .int xv1), (2, .int yv2)] → P12 y2 Sy → W p l e (rmF 2 43) s m args below meth c H locs 0 0 (MQ below (QcV G (injR SB) k) args s 0 0 (AG G)) (F0 m 12 ls [])) (h : wX8_findCan_133 S x1 x2 x3 x4 P2 P12 k) : W p l e (rmF 2 43) s m args below meth c H locs 0 0 (MQ below (QcV G (injR SB) k) args s 0 0 (AG G)) (F0 m 133 ls []) := by
  refine lv_aload_n C.1.1 C.1.2.1 dX8_findCan_133 rfl (lv_at hl 0 rfl) ?_
  refine y_getA C fl_X8_158 hw (ocr SB) rfl (o := 40) rfl dX8_findCan_134 ?_
  refine y_bipush C dX8_findCan_137 ⟨by decide, by decide⟩ (fun v2 t2 => ?_)
  refine lv_iload_n C.1.1 C.1.2.1 dX8_findCan_139 rfl (lv_at hl 2 rfl) ?_
  refine y_imul C t2 xt2 dX8_findCan_140 (fun v3 t3 => ?_)
  refine lv_iload_n C.1.1 C.1.2.1 dX8_findCan_141 rfl (lv_at hl 3 rfl) ?_
  refine y_iadd C t3 xt3 dX8_findCan_142 (fun v4 t4 => ?_)
  refine lv_iload C.1.1 C.1.2.1 dX8_findCan_143 (lv_at hl 4 rfl) ?_
  obtain ⟨b5, h⟩ := h
  obtain ⟨z5, h⟩ := h
  obtain ⟨S_5, e5⟩ : ∃ z : St, z = up S 40 (w32 (w32 (24 * x2) + x3)) x4 := ⟨_, rfl⟩
  have h := h S_5 e5
  refine y_zast C hw hS (acr_57 SB) t4 xt4 z5 b5 dX8_findCan_145 (fun H locs hw hS => ?_)
  have hw : Wd G ((injR SB) S_5) H := by rw [e5]; exact hw
  obtain ⟨x_6, e6⟩ : ∃ z : Int, z = w32 (x2 + 1) := ⟨_, rfl⟩
  have h := h x_6 e6
  obtain ⟨v6, t6, g6⟩ : ∃ z : Int32, z.toInt = x_6 ∧ xv2 + Int32.ofInt 1 = z := ⟨_, (ti_inc xt2 ⟨by decide, by decide⟩).trans e6.symm, rfl⟩
  refine lv_iinc (v := v6) (lv' := [(2, .int v6), (0, .ref (G.2.2 1042)), (1, .int xv1), (3, .int xv3), (4, .int xv4)]) C.1.1 C.1.2.1 dX8_findCan_146 hl (k := 2) rfl g6 (by decide) rfl (fun ls hl => ?_)
  refine lv_goto (tgt := 12) C.1.1 C.1.2.1 dX8_findCan_149 (by decide) ?_
  exact hP12 t6 hw hS (lv_sub hl [1, 2, 0] rfl) h
set_option maxHeartbeats 4000000 in
set_option maxRecDepth 10000 in
theorem uX8_findCan_79_b {p : Program} {l : Launch} {e : Env} {s : State} {m : MethodId} {args : Array Value} {below : List Frame} {meth : Method} {c : Code} {G : GG} {SB : St} (C : Cx p s m args meth c G RX8 cX8_findCan 6 none) {S : St} {H : Heap} {locs : List Loc} {ls : Array Slot} {P2 : Int → St → Prop} {P12 : Int → St → Prop} {P79 : Int → Int → Prop} {k : St → Prop} (hw : Wd G ((injR SB) S) H) (hS : va_S (AG G) s.heap H locs) {xv1 : Int32} {x1 : Int} (xt1 : xv1.toInt = x1) {xv2 : Int32} {x2 : Int} (xt2 : xv2.toInt = x2) {xv3 : Int32} {x3 : Int} (xt3 : xv3.toInt = x3) {xv4 : Int32} {x4 : Int} (xt4 : xv4.toInt = x4) {xv5 : Int32} {x5 : Int} (xt5 : xv5.toInt = x5) (hl : lv_has ls 6 [(0, .ref (G.2.2 1042)), (1, .int xv1), (2, .int xv2), (3, .int xv3), (4, .int xv4), (5, .int xv5)]) (hP2 : ∀ {H : Heap} {locs : List Loc} {ls : Array Slot} {Sy : St} {yv1 : Int32} {y1 : Int}, yv1.toInt = y1 → Wd G ((injR SB) Sy) H → va_S (AG G) s.heap H locs → lv_has ls 6 [(0, .ref (G.2.2 1042)), (1, .int yv1)] → P2 y1 Sy → W p l e (rmF 2 43) s m args below meth c H locs 0 0 (MQ below (QcV G (injR SB) k) args s 0 0 (AG G)) (F0 m 2 ls [])) (hP12 : ∀ {H : Heap} {locs : List Loc} {ls : Array Slot} {Sy : St} {yv2 : Int32} {y2 : Int}, yv2.toInt = y2 → Wd G ((injR SB) Sy) H → va_S (AG G) s.heap H locs → lv_has ls 6 [(0, .ref (G.2.2 1042)), (1, .int xv1), (2, .int yv2)] → P12 y2 Sy → W p l e (rmF 2 43) s m args below meth c H locs 0 0 (MQ below (QcV G (injR SB) k) args s 0 0 (AG G)) (F0 m 12 ls [])) (hP79 : ∀ {H : Heap} {locs : List Loc} {ls : Array Slot} {yv4 : Int32} {y4 : Int} {yv5 : Int32} {y5 : Int}, yv4.toInt = y4 → yv5.toInt = y5 → Wd G ((injR SB) S) H → va_S (AG G) s.heap H locs → lv_has ls 6 [(0, .ref (G.2.2 1042)), (1, .int xv1), (2, .int xv2), (3, .int xv3), (4, .int yv4), (5, .int yv5)] → P79 y4 y5 → W p l e (rmF 2 43) s m args below meth c H locs 0 0 (MQ below (QcV G (injR SB) k) args s 0 0 (AG G)) (F0 m 79 ls [])) (h : wX8_findCan_79_b S x1 x2 x3 x4 x5 P2 P12 P79 k) : W p l e (rmF 2 43) s m args below meth c H locs 0 0 (MQ below (QcV G (injR SB) k) args s 0 0 (AG G)) (F0 m 79 ls []) := by
  refine lv_iload C.1.1 C.1.2.1 dX8_findCan_79 (lv_at hl 5 rfl) ?_
  refine lv_iload_n C.1.1 C.1.2.1 dX8_findCan_81 rfl (lv_at hl 3 rfl) ?_
  refine y_icmp_ge C xt5 xt3 dX8_findCan_82 (tgt := 133) (by decide) (fun c1 => ?_) (fun c1 => ?_)
  · have h := h.1 c1
    exact uX8_findCan_133 C hw hS xt1 xt2 xt3 xt4 (lv_sub hl [0, 1, 2, 3, 4] rfl) hP2 hP12 h
  · have h := h.2 c1
    refine lv_iload C.1.1 C.1.2.1 dX8_findCan_85 (lv_at hl 4 rfl) ?_
    refine y_if_ne C xt4 dX8_findCan_87 (tgt := 133) (by decide) (fun c2 => ?_) (fun c2 => ?_)
    · have h := h.1 c2
      exact uX8_findCan_133 C hw hS xt1 xt2 xt3 xt4 (lv_sub hl [0, 1, 2, 3, 4] rfl) hP2 hP12 h
    · have h := h.2 c2
      refine lv_aload_n C.1.1 C.1.2.1 dX8_findCan_90 rfl (lv_at hl 0 rfl) ?_
      refine y_getA C fl_X8_158 hw (ocr SB) rfl (o := 40) rfl dX8_findCan_91 ?_
      refine y_bipush C dX8_findCan_94 ⟨by decide, by decide⟩ (fun v4 t4 => ?_)
      refine lv_iload C.1.1 C.1.2.1 dX8_findCan_96 (lv_at hl 5 rfl) ?_
      refine y_imul C t4 xt5 dX8_findCan_98 (fun v5 t5 => ?_)
      refine lv_iload_n C.1.1 C.1.2.1 dX8_findCan_99 rfl (lv_at hl 3 rfl) ?_
      refine y_iadd C t5 xt3 dX8_findCan_100 (fun v6 t6 => ?_)
      obtain ⟨b7, h⟩ := h
      refine y_zald C hw (acr_57 SB) t6 b7 dX8_findCan_101 (fun v7 t7 => ?_)
      refine y_if_eq C t7 dX8_findCan_102 (tgt := 124) (by decide) (fun c8 => ?_) (fun c8 => ?_)
      · have h := h.1 c8
        refine y_iconst C dX8_findCan_124 ⟨by decide, by decide⟩ (fun v9 t9 => ?_)
        refine lv_istore (lv' := [(4, .int v9), (0, .ref (G.2.2 1042)), (1, .int xv1), (2, .int xv2), (3, .int xv3), (5, .int xv5)]) C.1.1 C.1.2.1 dX8_findCan_125 hl (by decide) rfl (fun ls hl => ?_)
        obtain ⟨x_10, e10⟩ : ∃ z : Int, z = w32 (x5 + 1) := ⟨_, rfl⟩
        have h := h x_10 e10
        obtain ⟨v10, t10, g10⟩ : ∃ z : Int32, z.toInt = x_10 ∧ xv5 + Int32.ofInt 1 = z := ⟨_, (ti_inc xt5 ⟨by decide, by decide⟩).trans e10.symm, rfl⟩
        refine lv_iinc (v := v10) (lv' := [(5, .int v10), (4, .int v9), (0, .ref (G.2.2 1042)), (1, .int xv1), (2, .int xv2), (3, .int xv3)]) C.1.1 C.1.2.1 dX8_findCan_127 hl (k := 5) rfl g10 (by decide) rfl (fun ls hl => ?_)
        refine lv_goto (tgt := 79) C.1.1 C.1.2.1 dX8_findCan_130 (by decide) ?_
        exact hP79 t9 t10 hw hS (lv_sub hl [2, 3, 4, 5, 1, 0] rfl) h
      · have h := h.2 c8
        refine lv_aload_n C.1.1 C.1.2.1 dX8_findCan_105 rfl (lv_at hl 0 rfl) ?_
        refine y_getA C fl_X8_158 hw (ocr SB) rfl (o := 40) rfl dX8_findCan_106 ?_
        refine y_bipush C dX8_findCan_109 ⟨by decide, by decide⟩ (fun v12 t12 => ?_)
        refine lv_iload_n C.1.1 C.1.2.1 dX8_findCan_111 rfl (lv_at hl 2 rfl) ?_
        refine y_imul C t12 xt2 dX8_findCan_112 (fun v13 t13 => ?_)
        refine lv_iload C.1.1 C.1.2.1 dX8_findCan_113 (lv_at hl 5 rfl) ?_
        refine y_iadd C t13 xt5 dX8_findCan_115 (fun v14 t14 => ?_)
        obtain ⟨b15, h⟩ := h
        refine y_zald C hw (acr_57 SB) t14 b15 dX8_findCan_116 (fun v15 t15 => ?_)
        refine y_if_eq C t15 dX8_findCan_117 (tgt := 124) (by decide) (fun c16 => ?_) (fun c16 => ?_)
        · have h := h.1 c16
          refine y_iconst C dX8_findCan_124 ⟨by decide, by decide⟩ (fun v17 t17 => ?_)
          refine lv_istore (lv' := [(4, .int v17), (0, .ref (G.2.2 1042)), (1, .int xv1), (2, .int xv2), (3, .int xv3), (5, .int xv5)]) C.1.1 C.1.2.1 dX8_findCan_125 hl (by decide) rfl (fun ls hl => ?_)
          obtain ⟨x_18, e18⟩ : ∃ z : Int, z = w32 (x5 + 1) := ⟨_, rfl⟩
          have h := h x_18 e18
          obtain ⟨v18, t18, g18⟩ : ∃ z : Int32, z.toInt = x_18 ∧ xv5 + Int32.ofInt 1 = z := ⟨_, (ti_inc xt5 ⟨by decide, by decide⟩).trans e18.symm, rfl⟩
          refine lv_iinc (v := v18) (lv' := [(5, .int v18), (4, .int v17), (0, .ref (G.2.2 1042)), (1, .int xv1), (2, .int xv2), (3, .int xv3)]) C.1.1 C.1.2.1 dX8_findCan_127 hl (k := 5) rfl g18 (by decide) rfl (fun ls hl => ?_)
          refine lv_goto (tgt := 79) C.1.1 C.1.2.1 dX8_findCan_130 (by decide) ?_
          exact hP79 t17 t18 hw hS (lv_sub hl [2, 3, 4, 5, 1, 0] rfl) h
        · have h := h.2 c16
          refine y_iconst C dX8_findCan_120 ⟨by decide, by decide⟩ (fun v19 t19 => ?_)
          refine lv_goto (tgt := 125) C.1.1 C.1.2.1 dX8_findCan_121 (by decide) ?_
          refine lv_istore (lv' := [(4, .int v19), (0, .ref (G.2.2 1042)), (1, .int xv1), (2, .int xv2), (3, .int xv3), (5, .int xv5)]) C.1.1 C.1.2.1 dX8_findCan_125 hl (by decide) rfl (fun ls hl => ?_)
          obtain ⟨x_20, e20⟩ : ∃ z : Int, z = w32 (x5 + 1) := ⟨_, rfl⟩
          have h := h x_20 e20
          obtain ⟨v20, t20, g20⟩ : ∃ z : Int32, z.toInt = x_20 ∧ xv5 + Int32.ofInt 1 = z := ⟨_, (ti_inc xt5 ⟨by decide, by decide⟩).trans e20.symm, rfl⟩
          refine lv_iinc (v := v20) (lv' := [(5, .int v20), (4, .int v19), (0, .ref (G.2.2 1042)), (1, .int xv1), (2, .int xv2), (3, .int xv3)]) C.1.1 C.1.2.1 dX8_findCan_127 hl (k := 5) rfl g20 (by decide) rfl (fun ls hl => ?_)
          refine lv_goto (tgt := 79) C.1.1 C.1.2.1 dX8_findCan_130 (by decide) ?_
          exact hP79 t19 t20 hw hS (lv_sub hl [2, 3, 4, 5, 1, 0] rfl) h
set_option maxHeartbeats 4000000 in
set_option maxRecDepth 10000 in
theorem uX8_findCan_79 {p : Program} {l : Launch} {e : Env} {s : State} {m : MethodId} {args : Array Value} {below : List Frame} {meth : Method} {c : Code} {G : GG} {SB : St} (C : Cx p s m args meth c G RX8 cX8_findCan 6 none) {S : St} {H : Heap} {locs : List Loc} {ls : Array Slot} {P2 : Int → St → Prop} {P12 : Int → St → Prop} {k : St → Prop} (hw : Wd G ((injR SB) S) H) (hS : va_S (AG G) s.heap H locs) {xv1 : Int32} {x1 : Int} (xt1 : xv1.toInt = x1) {xv2 : Int32} {x2 : Int} (xt2 : xv2.toInt = x2) {xv3 : Int32} {x3 : Int} (xt3 : xv3.toInt = x3) {xv4 : Int32} {x4 : Int} (xt4 : xv4.toInt = x4) {xv5 : Int32} {x5 : Int} (xt5 : xv5.toInt = x5) (hl : lv_has ls 6 [(0, .ref (G.2.2 1042)), (1, .int xv1), (2, .int xv2), (3, .int xv3), (4, .int xv4), (5, .int xv5)]) (hP2 : ∀ {H : Heap} {locs : List Loc} {ls : Array Slot} {Sy : St} {yv1 : Int32} {y1 : Int}, yv1.toInt = y1 → Wd G ((injR SB) Sy) H → va_S (AG G) s.heap H locs → lv_has ls 6 [(0, .ref (G.2.2 1042)), (1, .int yv1)] → P2 y1 Sy → W p l e (rmF 2 43) s m args below meth c H locs 0 0 (MQ below (QcV G (injR SB) k) args s 0 0 (AG G)) (F0 m 2 ls [])) (hP12 : ∀ {H : Heap} {locs : List Loc} {ls : Array Slot} {Sy : St} {yv2 : Int32} {y2 : Int}, yv2.toInt = y2 → Wd G ((injR SB) Sy) H → va_S (AG G) s.heap H locs → lv_has ls 6 [(0, .ref (G.2.2 1042)), (1, .int xv1), (2, .int yv2)] → P12 y2 Sy → W p l e (rmF 2 43) s m args below meth c H locs 0 0 (MQ below (QcV G (injR SB) k) args s 0 0 (AG G)) (F0 m 12 ls [])) (h : wX8_findCan_79 S x1 x2 x3 x4 x5 P2 P12 k) : W p l e (rmF 2 43) s m args below meth c H locs 0 0 (MQ below (QcV G (injR SB) k) args s 0 0 (AG G)) (F0 m 79 ls []) := by
  have key : ∀ (n : Nat) {H : Heap} {locs : List Loc} {ls : Array Slot} {xv4 : Int32} {x4 : Int} {xv5 : Int32} {x5 : Int}, xv4.toInt = x4 → xv5.toInt = x5 → Wd G ((injR SB) S) H → va_S (AG G) s.heap H locs → lv_has ls 6 [(0, .ref (G.2.2 1042)), (1, .int xv1), (2, .int xv2), (3, .int xv3), (4, .int xv4), (5, .int xv5)] → itP (fun (P : Int × Int → Prop) (a : Int × Int) => wX8_findCan_79_b S x1 x2 x3 a.1 a.2 P2 P12 (fun b0 b1 => P (b0, b1)) k) n (x4, x5) → W p l e (rmF 2 43) s m args below meth c H locs 0 0 (MQ below (QcV G (injR SB) k) args s 0 0 (AG G)) (F0 m 79 ls []) := by
    intro n
    induction n with
    | zero => intro H locs ls xv4 x4 xv5 x5 xt4 xt5 hw hS hl h; exact h.elim
    | succ n ih =>
      intro H locs ls xv4 x4 xv5 x5 xt4 xt5 hw hS hl h
      exact uX8_findCan_79_b C hw hS xt1 xt2 xt3 xt4 xt5 hl hP2 hP12 (P79 := fun b0 b1 => itP _ n (b0, b1)) (fun q0 q1 hw hS hl h => ih q0 q1 hw hS hl h) h
  obtain ⟨n, hn⟩ := h
  exact key n xt4 xt5 hw hS hl hn
set_option maxHeartbeats 4000000 in
set_option maxRecDepth 10000 in
theorem uX8_findCan_72 {p : Program} {l : Launch} {e : Env} {s : State} {m : MethodId} {args : Array Value} {below : List Frame} {meth : Method} {c : Code} {G : GG} {SB : St} (C : Cx p s m args meth c G RX8 cX8_findCan 6 none) {S : St} {H : Heap} {locs : List Loc} {ls : Array Slot} {P2 : Int → St → Prop} {P12 : Int → St → Prop} {k : St → Prop} (hw : Wd G ((injR SB) S) H) (hS : va_S (AG G) s.heap H locs) {xv1 : Int32} {x1 : Int} (xt1 : xv1.toInt = x1) {xv2 : Int32} {x2 : Int} (xt2 : xv2.toInt = x2) {xv3 : Int32} {x3 : Int} (xt3 : xv3.toInt = x3) {sv0 : Int32} {s0 : Int} (st0 : sv0.toInt = s0) (hl : lv_has ls 6 [(0, .ref (G.2.2 1042)), (1, .int xv1), (2, .int xv2), (3, .int xv3)]) (hP2 : ∀ {H : Heap} {locs : List Loc} {ls : Array Slot} {Sy : St} {yv1 : Int32} {y1 : Int}, yv1.toInt = y1 → Wd G ((injR SB) Sy) H → va_S (AG G) s.heap H locs → lv_has ls 6 [(0, .ref (G.2.2 1042)), (1, .int yv1)] → P2 y1 Sy → W p l e (rmF 2 43) s m args below meth c H locs 0 0 (MQ below (QcV G (injR SB) k) args s 0 0 (AG G)) (F0 m 2 ls [])) (hP12 : ∀ {H : Heap} {locs : List Loc} {ls : Array Slot} {Sy : St} {yv2 : Int32} {y2 : Int}, yv2.toInt = y2 → Wd G ((injR SB) Sy) H → va_S (AG G) s.heap H locs → lv_has ls 6 [(0, .ref (G.2.2 1042)), (1, .int xv1), (2, .int yv2)] → P12 y2 Sy → W p l e (rmF 2 43) s m args below meth c H locs 0 0 (MQ below (QcV G (injR SB) k) args s 0 0 (AG G)) (F0 m 12 ls [])) (h : wX8_findCan_72 S x1 x2 x3 s0 P2 P12 k) : W p l e (rmF 2 43) s m args below meth c H locs 0 0 (MQ below (QcV G (injR SB) k) args s 0 0 (AG G)) (F0 m 72 ls [.int sv0]) := by
  refine lv_istore (lv' := [(4, .int sv0), (0, .ref (G.2.2 1042)), (1, .int xv1), (2, .int xv2), (3, .int xv3)]) C.1.1 C.1.2.1 dX8_findCan_72 hl (by decide) rfl (fun ls hl => ?_)
  refine lv_iload_n C.1.1 C.1.2.1 dX8_findCan_74 rfl (lv_at hl 3 rfl) ?_
  refine y_iconst C dX8_findCan_75 ⟨by decide, by decide⟩ (fun v1 t1 => ?_)
  refine y_iadd C xt2 t1 dX8_findCan_76 (fun v2 t2 => ?_)
  obtain ⟨x_3, e3⟩ : ∃ z : Int, z = w32 (x2 + 1) := ⟨_, rfl⟩
  have h := h x_3 e3
  have t3 := t2.trans e3.symm
  refine lv_istore (lv' := [(5, .int v2), (4, .int sv0), (0, .ref (G.2.2 1042)), (1, .int xv1), (2, .int xv2), (3, .int xv3)]) C.1.1 C.1.2.1 dX8_findCan_77 hl (by decide) rfl (fun ls hl => ?_)
  exact uX8_findCan_79 C hw hS xt1 xt2 xt3 st0 t3 (lv_sub hl [2, 3, 4, 5, 1, 0] rfl) hP2 hP12 h
set_option maxHeartbeats 4000000 in
set_option maxRecDepth 10000 in
theorem uX8_findCan_67 {p : Program} {l : Launch} {e : Env} {s : State} {m : MethodId} {args : Array Value} {below : List Frame} {meth : Method} {c : Code} {G : GG} {SB : St} (C : Cx p s m args meth c G RX8 cX8_findCan 6 none) {S : St} {H : Heap} {locs : List Loc} {ls : Array Slot} {P2 : Int → St → Prop} {P12 : Int → St → Prop} {k : St → Prop} (hw : Wd G ((injR SB) S) H) (hS : va_S (AG G) s.heap H locs) {xv1 : Int32} {x1 : Int} (xt1 : xv1.toInt = x1) {xv2 : Int32} {x2 : Int} (xt2 : xv2.toInt = x2) {xv3 : Int32} {x3 : Int} (xt3 : xv3.toInt = x3) (hl : lv_has ls 6 [(0, .ref (G.2.2 1042)), (1, .int xv1), (2, .int xv2), (3, .int xv3)]) (hP2 : ∀ {H : Heap} {locs : List Loc} {ls : Array Slot} {Sy : St} {yv1 : Int32} {y1 : Int}, yv1.toInt = y1 → Wd G ((injR SB) Sy) H → va_S (AG G) s.heap H locs → lv_has ls 6 [(0, .ref (G.2.2 1042)), (1, .int yv1)] → P2 y1 Sy → W p l e (rmF 2 43) s m args below meth c H locs 0 0 (MQ below (QcV G (injR SB) k) args s 0 0 (AG G)) (F0 m 2 ls [])) (hP12 : ∀ {H : Heap} {locs : List Loc} {ls : Array Slot} {Sy : St} {yv2 : Int32} {y2 : Int}, yv2.toInt = y2 → Wd G ((injR SB) Sy) H → va_S (AG G) s.heap H locs → lv_has ls 6 [(0, .ref (G.2.2 1042)), (1, .int xv1), (2, .int yv2)] → P12 y2 Sy → W p l e (rmF 2 43) s m args below meth c H locs 0 0 (MQ below (QcV G (injR SB) k) args s 0 0 (AG G)) (F0 m 12 ls [])) (h : wX8_findCan_67 S x1 x2 x3 P2 P12 k) : W p l e (rmF 2 43) s m args below meth c H locs 0 0 (MQ below (QcV G (injR SB) k) args s 0 0 (AG G)) (F0 m 67 ls []) := by
  refine y_iconst C dX8_findCan_67 ⟨by decide, by decide⟩ (fun v1 t1 => ?_)
  refine lv_goto (tgt := 72) C.1.1 C.1.2.1 dX8_findCan_68 (by decide) ?_
  exact uX8_findCan_72 C hw hS xt1 xt2 xt3 t1 (lv_sub hl [0, 1, 2, 3] rfl) hP2 hP12 h
set_option maxHeartbeats 4000000 in
set_option maxRecDepth 10000 in
theorem uX8_findCan_12_b {p : Program} {l : Launch} {e : Env} {s : State} {m : MethodId} {args : Array Value} {below : List Frame} {meth : Method} {c : Code} {G : GG} {SB : St} (C : Cx p s m args meth c G RX8 cX8_findCan 6 none) {S : St} {H : Heap} {locs : List Loc} {ls : Array Slot} {P2 : Int → St → Prop} {P12 : Int → St → Prop} {k : St → Prop} (hw : Wd G ((injR SB) S) H) (hS : va_S (AG G) s.heap H locs) {xv1 : Int32} {x1 : Int} (xt1 : xv1.toInt = x1) {xv2 : Int32} {x2 : Int} (xt2 : xv2.toInt = x2) (hl : lv_has ls 6 [(0, .ref (G.2.2 1042)), (1, .int xv1), (2, .int xv2)]) (hP2 : ∀ {H : Heap} {locs : List Loc} {ls : Array Slot} {Sy : St} {yv1 : Int32} {y1 : Int}, yv1.toInt = y1 → Wd G ((injR SB) Sy) H → va_S (AG G) s.heap H locs → lv_has ls 6 [(0, .ref (G.2.2 1042)), (1, .int yv1)] → P2 y1 Sy → W p l e (rmF 2 43) s m args below meth c H locs 0 0 (MQ below (QcV G (injR SB) k) args s 0 0 (AG G)) (F0 m 2 ls [])) (hP12 : ∀ {H : Heap} {locs : List Loc} {ls : Array Slot} {Sy : St} {yv2 : Int32} {y2 : Int}, yv2.toInt = y2 → Wd G ((injR SB) Sy) H → va_S (AG G) s.heap H locs → lv_has ls 6 [(0, .ref (G.2.2 1042)), (1, .int xv1), (2, .int yv2)] → P12 y2 Sy → W p l e (rmF 2 43) s m args below meth c H locs 0 0 (MQ below (QcV G (injR SB) k) args s 0 0 (AG G)) (F0 m 12 ls [])) (h : wX8_findCan_12_b S x1 x2 P2 P12 k) : W p l e (rmF 2 43) s m args below meth c H locs 0 0 (MQ below (QcV G (injR SB) k) args s 0 0 (AG G)) (F0 m 12 ls []) := by
  refine lv_iload_n C.1.1 C.1.2.1 dX8_findCan_12 rfl (lv_at hl 2 rfl) ?_
  refine lv_iload_n C.1.1 C.1.2.1 dX8_findCan_13 rfl (lv_at hl 1 rfl) ?_
  refine y_iadd C xt2 xt1 dX8_findCan_14 (fun v1 t1 => ?_)
  refine lv_aload_n C.1.1 C.1.2.1 dX8_findCan_15 rfl (lv_at hl 0 rfl) ?_
  refine y_getI C fl_X8_413 hw (ocr SB) rfl dX8_findCan_16 (fun v2 t2 => ?_)
  refine y_icmp_ge C t1 t2 dX8_findCan_19 (tgt := 152) (by decide) (fun c3 => ?_) (fun c3 => ?_)
  · have h := h.1 c3
    obtain ⟨x_4, e4⟩ : ∃ z : Int, z = w32 (x1 + 1) := ⟨_, rfl⟩
    have h := h x_4 e4
    obtain ⟨v4, t4, g4⟩ : ∃ z : Int32, z.toInt = x_4 ∧ xv1 + Int32.ofInt 1 = z := ⟨_, (ti_inc xt1 ⟨by decide, by decide⟩).trans e4.symm, rfl⟩
    refine lv_iinc (v := v4) (lv' := [(1, .int v4), (0, .ref (G.2.2 1042)), (2, .int xv2)]) C.1.1 C.1.2.1 dX8_findCan_152 hl (k := 1) rfl g4 (by decide) rfl (fun ls hl => ?_)
    refine lv_goto (tgt := 2) C.1.1 C.1.2.1 dX8_findCan_155 (by decide) ?_
    exact hP2 t4 hw hS (lv_sub hl [1, 0] rfl) h
  · have h := h.2 c3
    refine lv_iload_n C.1.1 C.1.2.1 dX8_findCan_22 rfl (lv_at hl 2 rfl) ?_
    refine lv_iload_n C.1.1 C.1.2.1 dX8_findCan_23 rfl (lv_at hl 1 rfl) ?_
    refine y_iadd C xt2 xt1 dX8_findCan_24 (fun v5 t5 => ?_)
    obtain ⟨x_6, e6⟩ : ∃ z : Int, z = w32 (x2 + x1) := ⟨_, rfl⟩
    have h := h x_6 e6
    have t6 := t5.trans e6.symm
    refine lv_istore_n (lv' := [(3, .int v5), (0, .ref (G.2.2 1042)), (1, .int xv1), (2, .int xv2)]) C.1.1 C.1.2.1 dX8_findCan_25 rfl hl (by decide) rfl (fun ls hl => ?_)
    refine lv_aload_n C.1.1 C.1.2.1 dX8_findCan_26 rfl (lv_at hl 1 rfl) ?_
    refine lv_aload_n C.1.1 C.1.2.1 dX8_findCan_27 rfl (lv_at hl 1 rfl) ?_
    refine y_getA C fl_X8_155 hw (ocr SB) rfl (o := 39) rfl dX8_findCan_28 ?_
    refine lv_iload_n C.1.1 C.1.2.1 dX8_findCan_31 rfl (lv_at hl 0 rfl) ?_
    obtain ⟨b8, h⟩ := h
    refine y_iald C hw (acr_55 SB) t6 b8 dX8_findCan_32 (fun v8 t8 => ?_)
    refine y_cVIp C (As := [.int v8]) (rest := []) ml_X8_383 (kX8_accessOf l G SB S t8 h) (ocr SB) (T := TX8) (N := 60) rfl (by decide) ⟨(Nat.le_of_ble_eq_true rfl), (Nat.le_of_ble_eq_true rfl)⟩ hl.1 rfl rfl (Nat.le_of_ble_eq_true rfl) hw hS dX8_findCan_33 (fun v9 x_9 H locs t9 h hw hS => ?_)
    refine y_iconst C dX8_findCan_36 ⟨by decide, by decide⟩ (fun v10 t10 => ?_)
    refine y_icmp_gt C t9 t10 dX8_findCan_37 (tgt := 67) (by decide) (fun c11 => ?_) (fun c11 => ?_)
    · have h := h.1 c11
      exact uX8_findCan_67 C hw hS xt1 xt2 t6 (lv_sub hl [1, 2, 3, 0] rfl) hP2 hP12 h
    · have h := h.2 c11
      refine lv_aload_n C.1.1 C.1.2.1 dX8_findCan_40 rfl (lv_at hl 1 rfl) ?_
      refine lv_aload_n C.1.1 C.1.2.1 dX8_findCan_41 rfl (lv_at hl 1 rfl) ?_
      refine lv_aload_n C.1.1 C.1.2.1 dX8_findCan_42 rfl (lv_at hl 1 rfl) ?_
      refine y_getA C fl_X8_155 hw (ocr SB) rfl (o := 39) rfl dX8_findCan_43 ?_
      refine lv_iload_n C.1.1 C.1.2.1 dX8_findCan_46 rfl (lv_at hl 3 rfl) ?_
      obtain ⟨b13, h⟩ := h
      refine y_iald C hw (acr_55 SB) xt2 b13 dX8_findCan_47 (fun v13 t13 => ?_)
      refine y_cVIp C (As := [.int v13]) (rest := [.ref (G.2.2 1042)]) ml_X8_398 (kX8_ownerOf l G SB S t13 h) (ocr SB) (T := TX8) (N := 60) rfl (by decide) ⟨(Nat.le_of_ble_eq_true rfl), (Nat.le_of_ble_eq_true rfl)⟩ hl.1 rfl rfl (Nat.le_of_ble_eq_true rfl) hw hS dX8_findCan_48 (fun v14 x_14 H locs t14 h hw hS => ?_)
      refine lv_aload_n C.1.1 C.1.2.1 dX8_findCan_51 rfl (lv_at hl 1 rfl) ?_
      refine lv_aload_n C.1.1 C.1.2.1 dX8_findCan_52 rfl (lv_at hl 1 rfl) ?_
      refine y_getA C fl_X8_155 hw (ocr SB) rfl (o := 39) rfl dX8_findCan_53 ?_
      refine lv_iload_n C.1.1 C.1.2.1 dX8_findCan_56 rfl (lv_at hl 0 rfl) ?_
      obtain ⟨b16, h⟩ := h
      refine y_iald C hw (acr_55 SB) t6 b16 dX8_findCan_57 (fun v16 t16 => ?_)
      refine y_cVIp C (As := [.int v16]) (rest := [.int v14, .ref (G.2.2 1042)]) ml_X8_398 (kX8_ownerOf l G SB S t16 h) (ocr SB) (T := TX8) (N := 60) rfl (by decide) ⟨(Nat.le_of_ble_eq_true rfl), (Nat.le_of_ble_eq_true rfl)⟩ hl.1 rfl rfl (Nat.le_of_ble_eq_true rfl) hw hS dX8_findCan_58 (fun v17 x_17 H locs t17 h hw hS => ?_)
      refine y_cVIp C (As := [.int v14, .int v17]) (rest := []) ml_X8_258 (kX8_isSamePackage l G SB S t14 t17 h) (ocr SB) (T := TX8) (N := 60) rfl (by decide) ⟨(Nat.le_of_ble_eq_true rfl), (Nat.le_of_ble_eq_true rfl)⟩ hl.1 rfl rfl (Nat.le_of_ble_eq_true rfl) hw hS dX8_findCan_61 (fun v18 x_18 H locs t18 h hw hS => ?_)
      refine y_if_eq C t18 dX8_findCan_64 (tgt := 71) (by decide) (fun c19 => ?_) (fun c19 => ?_)
      · have h := h.1 c19
        refine y_iconst C dX8_findCan_71 ⟨by decide, by decide⟩ (fun v20 t20 => ?_)
        exact uX8_findCan_72 C hw hS xt1 xt2 t6 t20 (lv_sub hl [1, 2, 3, 0] rfl) hP2 hP12 h
      · have h := h.2 c19
        exact uX8_findCan_67 C hw hS xt1 xt2 t6 (lv_sub hl [1, 2, 3, 0] rfl) hP2 hP12 h
set_option maxHeartbeats 4000000 in
set_option maxRecDepth 10000 in
theorem uX8_findCan_12 {p : Program} {l : Launch} {e : Env} {s : State} {m : MethodId} {args : Array Value} {below : List Frame} {meth : Method} {c : Code} {G : GG} {SB : St} (C : Cx p s m args meth c G RX8 cX8_findCan 6 none) {S : St} {H : Heap} {locs : List Loc} {ls : Array Slot} {P2 : Int → St → Prop} {k : St → Prop} (hw : Wd G ((injR SB) S) H) (hS : va_S (AG G) s.heap H locs) {xv1 : Int32} {x1 : Int} (xt1 : xv1.toInt = x1) {xv2 : Int32} {x2 : Int} (xt2 : xv2.toInt = x2) (hl : lv_has ls 6 [(0, .ref (G.2.2 1042)), (1, .int xv1), (2, .int xv2)]) (hP2 : ∀ {H : Heap} {locs : List Loc} {ls : Array Slot} {Sy : St} {yv1 : Int32} {y1 : Int}, yv1.toInt = y1 → Wd G ((injR SB) Sy) H → va_S (AG G) s.heap H locs → lv_has ls 6 [(0, .ref (G.2.2 1042)), (1, .int yv1)] → P2 y1 Sy → W p l e (rmF 2 43) s m args below meth c H locs 0 0 (MQ below (QcV G (injR SB) k) args s 0 0 (AG G)) (F0 m 2 ls [])) (h : wX8_findCan_12 S x1 x2 P2 k) : W p l e (rmF 2 43) s m args below meth c H locs 0 0 (MQ below (QcV G (injR SB) k) args s 0 0 (AG G)) (F0 m 12 ls []) := by
  have key : ∀ (n : Nat) {H : Heap} {locs : List Loc} {ls : Array Slot} {S : St} {xv2 : Int32} {x2 : Int}, xv2.toInt = x2 → Wd G ((injR SB) S) H → va_S (AG G) s.heap H locs → lv_has ls 6 [(0, .ref (G.2.2 1042)), (1, .int xv1), (2, .int xv2)] → itP (fun (P : Int × St → Prop) (a : Int × St) => wX8_findCan_12_b a.2 x1 a.1 P2 (fun b0 b1 => P (b0, b1)) k) n (x2, S) → W p l e (rmF 2 43) s m args below meth c H locs 0 0 (MQ below (QcV G (injR SB) k) args s 0 0 (AG G)) (F0 m 12 ls []) := by
    intro n
    induction n with
    | zero => intro H locs ls S xv2 x2 xt2 hw hS hl h; exact h.elim
    | succ n ih =>
      intro H locs ls S xv2 x2 xt2 hw hS hl h
      exact uX8_findCan_12_b C hw hS xt1 xt2 hl hP2 (P12 := fun b0 b1 => itP _ n (b0, b1)) (fun q0 hw hS hl h => ih q0 hw hS hl h) h
  obtain ⟨n, hn⟩ := h
  exact key n xt2 hw hS hl hn
set_option maxHeartbeats 4000000 in
set_option maxRecDepth 10000 in
theorem uX8_findCan_2_b {p : Program} {l : Launch} {e : Env} {s : State} {m : MethodId} {args : Array Value} {below : List Frame} {meth : Method} {c : Code} {G : GG} {SB : St} (C : Cx p s m args meth c G RX8 cX8_findCan 6 none) {S : St} {H : Heap} {locs : List Loc} {ls : Array Slot}  {P2 : Int → St → Prop} {k : St → Prop} (hw : Wd G ((injR SB) S) H) (hS : va_S (AG G) s.heap H locs) {xv1 : Int32} {x1 : Int} (xt1 : xv1.toInt = x1) (hl : lv_has ls 6 [(0, .ref (G.2.2 1042)), (1, .int xv1)])  (hP2 : ∀ {H : Heap} {locs : List Loc} {ls : Array Slot} {Sy : St} {yv1 : Int32} {y1 : Int}, yv1.toInt = y1 → Wd G ((injR SB) Sy) H → va_S (AG G) s.heap H locs → lv_has ls 6 [(0, .ref (G.2.2 1042)), (1, .int yv1)] → P2 y1 Sy → W p l e (rmF 2 43) s m args below meth c H locs 0 0 (MQ below (QcV G (injR SB) k) args s 0 0 (AG G)) (F0 m 2 ls [])) (h : wX8_findCan_2_b S x1 P2 k) : W p l e (rmF 2 43) s m args below meth c H locs 0 0 (MQ below (QcV G (injR SB) k) args s 0 0 (AG G)) (F0 m 2 ls []) := by
  refine lv_iload_n C.1.1 C.1.2.1 dX8_findCan_2 rfl (lv_at hl 1 rfl) ?_
  refine lv_aload_n C.1.1 C.1.2.1 dX8_findCan_3 rfl (lv_at hl 0 rfl) ?_
  refine y_getI C fl_X8_413 hw (ocr SB) rfl dX8_findCan_4 (fun v1 t1 => ?_)
  refine y_icmp_ge C xt1 t1 dX8_findCan_7 (tgt := 158) (by decide) (fun c2 => ?_) (fun c2 => ?_)
  · have h := h.1 c2
    exact y_vret C hw hS h dX8_findCan_158
  · have h := h.2 c2
    refine y_iconst C dX8_findCan_10 ⟨by decide, by decide⟩ (fun v3 t3 => ?_)
    refine lv_istore_n (lv' := [(2, .int v3), (0, .ref (G.2.2 1042)), (1, .int xv1)]) C.1.1 C.1.2.1 dX8_findCan_11 rfl hl (by decide) rfl (fun ls hl => ?_)
    exact uX8_findCan_12 C hw hS xt1 t3 (lv_sub hl [1, 2, 0] rfl) hP2 h
set_option maxHeartbeats 4000000 in
set_option maxRecDepth 10000 in
theorem uX8_findCan_2 {p : Program} {l : Launch} {e : Env} {s : State} {m : MethodId} {args : Array Value} {below : List Frame} {meth : Method} {c : Code} {G : GG} {SB : St} (C : Cx p s m args meth c G RX8 cX8_findCan 6 none) {S : St} {H : Heap} {locs : List Loc} {ls : Array Slot}  {k : St → Prop} (hw : Wd G ((injR SB) S) H) (hS : va_S (AG G) s.heap H locs) {xv1 : Int32} {x1 : Int} (xt1 : xv1.toInt = x1) (hl : lv_has ls 6 [(0, .ref (G.2.2 1042)), (1, .int xv1)])  (h : wX8_findCan_2 S x1 k) : W p l e (rmF 2 43) s m args below meth c H locs 0 0 (MQ below (QcV G (injR SB) k) args s 0 0 (AG G)) (F0 m 2 ls []) := by
  have key : ∀ (n : Nat) {H : Heap} {locs : List Loc} {ls : Array Slot} {S : St} {xv1 : Int32} {x1 : Int}, xv1.toInt = x1 → Wd G ((injR SB) S) H → va_S (AG G) s.heap H locs → lv_has ls 6 [(0, .ref (G.2.2 1042)), (1, .int xv1)] → itP (fun (P : Int × St → Prop) (a : Int × St) => wX8_findCan_2_b a.2 a.1 (fun b0 b1 => P (b0, b1)) k) n (x1, S) → W p l e (rmF 2 43) s m args below meth c H locs 0 0 (MQ below (QcV G (injR SB) k) args s 0 0 (AG G)) (F0 m 2 ls []) := by
    intro n
    induction n with
    | zero => intro H locs ls S xv1 x1 xt1 hw hS hl h; exact h.elim
    | succ n ih =>
      intro H locs ls S xv1 x1 xt1 hw hS hl h
      exact uX8_findCan_2_b C hw hS xt1 hl  (P2 := fun b0 b1 => itP _ n (b0, b1)) (fun q0 hw hS hl h => ih q0 hw hS hl h) h
  obtain ⟨n, hn⟩ := h
  exact key n xt1 hw hS hl hn
set_option maxHeartbeats 4000000 in
set_option maxRecDepth 10000 in
theorem uX8_findCan_0 {p : Program} {l : Launch} {e : Env} {s : State} {m : MethodId} {args : Array Value} {below : List Frame} {meth : Method} {c : Code} {G : GG} {SB : St} (C : Cx p s m args meth c G RX8 cX8_findCan 6 none) {S : St} {H : Heap} {locs : List Loc} {ls : Array Slot}  {k : St → Prop} (hw : Wd G ((injR SB) S) H) (hS : va_S (AG G) s.heap H locs)  (hl : lv_has ls 6 [(0, .ref (G.2.2 1042))])  (h : wX8_findCan_0 S k) : W p l e (rmF 2 43) s m args below meth c H locs 0 0 (MQ below (QcV G (injR SB) k) args s 0 0 (AG G)) (F0 m 0 ls []) := by
  refine y_iconst C dX8_findCan_0 ⟨by decide, by decide⟩ (fun v1 t1 => ?_)
  refine lv_istore_n (lv' := [(1, .int v1), (0, .ref (G.2.2 1042))]) C.1.1 C.1.2.1 dX8_findCan_1 rfl hl (by decide) rfl (fun ls hl => ?_)
  exact uX8_findCan_2 C hw hS t1 (lv_sub hl [1, 0] rfl)  h
theorem kX8_findCan (l : Launch) (G : GG) (SB S : St)  {k : St → Prop} (h : wX8_findCan S k) : CnV l yX8_findCan cX8_findCan 6 none 2 43 G (injR SB) [.ref (G.2.2 1042)] S k :=
  cn_body (by decide +kernel) (Nat.le_of_ble_eq_true rfl) (fun p e s m args below meth c ls C hw hl => uX8_findCan_0 C hw va_S.rf  (lv_sub hl [0] rfl) h)
set_option maxHeartbeats 4000000 in
set_option maxRecDepth 10000 in
theorem uX8_runs_0 {p : Program} {l : Launch} {e : Env} {s : State} {m : MethodId} {args : Array Value} {below : List Frame} {meth : Method} {c : Code} {G : GG} {SB : St} (C : Cx p s m args meth c G RX8 cX8_runs 2 (some .int)) {S : St} {H : Heap} {locs : List Loc} {ls : Array Slot}  {k : Int → Prop} (hw : Wd G ((injR SB) S) H) (hS : va_S (AG G) s.heap H locs) {xv1 : Int32} {x1 : Int} (xt1 : xv1.toInt = x1) (hl : lv_has ls 2 [(0, .ref (G.2.2 1042)), (1, .int xv1)])  (h : wX8_runs_0 S x1 k) : W p l e (rmF 2 42) s m args below meth c H locs 0 0 (MQ below (QcI G (injR SB) (fun r u => k r ∧ u = S)) args s 0 0 (AG G)) (F0 m 0 ls []) := by
  refine lv_aload_n C.1.1 C.1.2.1 dX8_runs_0 rfl (lv_at hl 0 rfl) ?_
  refine lv_iload_n C.1.1 C.1.2.1 dX8_runs_1 rfl (lv_at hl 1 rfl) ?_
  refine y_cVIp C (As := [.int xv1]) (rest := []) ml_X8_380 (kX8_shapeOf l G SB S xt1 h) (ocr SB) (T := TX8) (N := 60) rfl (by decide) ⟨(Nat.le_of_ble_eq_true rfl), (Nat.le_of_ble_eq_true rfl)⟩ hl.1 rfl rfl (Nat.le_of_ble_eq_true rfl) hw hS dX8_runs_2 (fun v1 x_1 H locs t1 h hw hS => ?_)
  refine y_iconst C dX8_runs_5 ⟨by decide, by decide⟩ (fun v2 t2 => ?_)
  refine y_icmp_ne C t1 t2 dX8_runs_6 (tgt := 14) (by decide) (fun c3 => ?_) (fun c3 => ?_)
  · have h := h.1 c3
    refine lv_iload_n C.1.1 C.1.2.1 dX8_runs_14 rfl (lv_at hl 1 rfl) ?_
    exact y_iret C hw hS xt1 ⟨h, rfl⟩ dX8_runs_15
  · have h := h.2 c3
    refine y_bipush C dX8_runs_9 ⟨by decide, by decide⟩ (fun v4 t4 => ?_)
    refine lv_goto (tgt := 15) C.1.1 C.1.2.1 dX8_runs_11 (by decide) ?_
    exact y_iret C hw hS t4 ⟨h, rfl⟩ dX8_runs_15
theorem kX8_runs (l : Launch) (G : GG) (SB S : St) {xv1 : Int32} {x1 : Int} (xt1 : xv1.toInt = x1) {k : Int → Prop} (h : wX8_runs S x1 k) : CnI l yX8_runs cX8_runs 2 (some .int) 2 42 G (injR SB) [.ref (G.2.2 1042), .int xv1] S (fun r u => k r ∧ u = S) :=
  cn_body (by decide +kernel) (Nat.le_of_ble_eq_true rfl) (fun p e s m args below meth c ls C hw hl => uX8_runs_0 C hw va_S.rf xt1 (lv_sub hl [0, 1] rfl) h)
set_option maxHeartbeats 4000000 in
set_option maxRecDepth 10000 in
theorem uX8_selected_118 {p : Program} {l : Launch} {e : Env} {s : State} {m : MethodId} {args : Array Value} {below : List Frame} {meth : Method} {c : Code} {G : GG} {SB : St} (C : Cx p s m args meth c G RX8 cX8_selected 7 (some .int)) {S : St} {H : Heap} {locs : List Loc} {ls : Array Slot} {P45 : Int → Int → St → Prop} {k : Int → St → Prop} (hw : Wd G ((injR SB) S) H) (hS : va_S (AG G) s.heap H locs) {xv1 : Int32} {x1 : Int} (xt1 : xv1.toInt = x1) {xv2 : Int32} {x2 : Int} (xt2 : xv2.toInt = x2) {xv3 : Int32} {x3 : Int} (xt3 : xv3.toInt = x3) {xv4 : Int32} {x4 : Int} (xt4 : xv4.toInt = x4) {xv5 : Int32} {x5 : Int} (xt5 : xv5.toInt = x5) (hl : lv_has ls 7 [(0, .ref (G.2.2 1042)), (1, .int xv1), (2, .int xv2), (3, .int xv3), (4, .int xv4), (5, .int xv5)]) (hP45 : ∀ {H : Heap} {locs : List Loc} {ls : Array Slot} {Sy : St} {yv4 : Int32} {y4 : Int} {yv5 : Int32} {y5 : Int}, yv4.toInt = y4 → yv5.toInt = y5 → Wd G ((injR SB) Sy) H → va_S (AG G) s.heap H locs → lv_has ls 7 [(0, .ref (G.2.2 1042)), (1, .int xv1), (2, .int xv2), (3, .int xv3), (4, .int yv4), (5, .int yv5)] → P45 y4 y5 Sy → W p l e (rmF 7 161) s m args below meth c H locs 0 0 (MQ below (QcI G (injR SB) k) args s 0 0 (AG G)) (F0 m 45 ls [])) (h : wX8_selected_118 S x1 x2 x3 x4 x5 P45 k) : W p l e (rmF 7 161) s m args below meth c H locs 0 0 (MQ below (QcI G (injR SB) k) args s 0 0 (AG G)) (F0 m 118 ls []) := by
  refine lv_aload_n C.1.1 C.1.2.1 dX8_selected_118 rfl (lv_at hl 0 rfl) ?_
  refine y_getA C fl_X8_94 hw (ocr SB) rfl (o := 19) rfl dX8_selected_119 ?_
  refine lv_aload_n C.1.1 C.1.2.1 dX8_selected_122 rfl (lv_at hl 0 rfl) ?_
  refine lv_iload C.1.1 C.1.2.1 dX8_selected_123 (lv_at hl 5 rfl) ?_
  refine y_cVIp C (As := [.int xv5]) (rest := [.ref (G.2.2 (1061))]) ml_X8_214 (kX8_t l G SB S xt5 h) (ocr SB) (T := TX8) (N := 60) rfl (by decide) ⟨(Nat.le_of_ble_eq_true rfl), (Nat.le_of_ble_eq_true rfl)⟩ hl.1 rfl rfl (Nat.le_of_ble_eq_true rfl) hw hS dX8_selected_125 (fun v2 x_2 H locs t2 h hw hS => ?_)
  obtain ⟨b3, h⟩ := h
  refine y_iald C hw (acr_28 SB) t2 b3 dX8_selected_128 (fun v3 t3 => ?_)
  obtain ⟨x_4, e4⟩ : ∃ z : Int, z = S 19 x_2 := ⟨_, rfl⟩
  have h := h x_4 e4
  have t4 := t3.trans e4.symm
  refine lv_istore (lv' := [(5, .int v3), (0, .ref (G.2.2 1042)), (1, .int xv1), (2, .int xv2), (3, .int xv3), (4, .int xv4)]) C.1.1 C.1.2.1 dX8_selected_129 hl (by decide) rfl (fun ls hl => ?_)
  refine lv_goto (tgt := 45) C.1.1 C.1.2.1 dX8_selected_131 (by decide) ?_
  exact hP45 xt4 t4 hw hS (lv_sub hl [1, 2, 3, 4, 5, 0] rfl) h
set_option maxHeartbeats 4000000 in
set_option maxRecDepth 10000 in
theorem uX8_selected_116 {p : Program} {l : Launch} {e : Env} {s : State} {m : MethodId} {args : Array Value} {below : List Frame} {meth : Method} {c : Code} {G : GG} {SB : St} (C : Cx p s m args meth c G RX8 cX8_selected 7 (some .int)) {S : St} {H : Heap} {locs : List Loc} {ls : Array Slot} {P45 : Int → Int → St → Prop} {k : Int → St → Prop} (hw : Wd G ((injR SB) S) H) (hS : va_S (AG G) s.heap H locs) {xv1 : Int32} {x1 : Int} (xt1 : xv1.toInt = x1) {xv2 : Int32} {x2 : Int} (xt2 : xv2.toInt = x2) {xv3 : Int32} {x3 : Int} (xt3 : xv3.toInt = x3) {xv5 : Int32} {x5 : Int} (xt5 : xv5.toInt = x5) {sv0 : Int32} {s0 : Int} (st0 : sv0.toInt = s0) (hl : lv_has ls 7 [(0, .ref (G.2.2 1042)), (1, .int xv1), (2, .int xv2), (3, .int xv3), (5, .int xv5)]) (hP45 : ∀ {H : Heap} {locs : List Loc} {ls : Array Slot} {Sy : St} {yv4 : Int32} {y4 : Int} {yv5 : Int32} {y5 : Int}, yv4.toInt = y4 → yv5.toInt = y5 → Wd G ((injR SB) Sy) H → va_S (AG G) s.heap H locs → lv_has ls 7 [(0, .ref (G.2.2 1042)), (1, .int xv1), (2, .int xv2), (3, .int xv3), (4, .int yv4), (5, .int yv5)] → P45 y4 y5 Sy → W p l e (rmF 7 161) s m args below meth c H locs 0 0 (MQ below (QcI G (injR SB) k) args s 0 0 (AG G)) (F0 m 45 ls [])) (h : wX8_selected_116 S x1 x2 x3 x5 s0 P45 k) : W p l e (rmF 7 161) s m args below meth c H locs 0 0 (MQ below (QcI G (injR SB) k) args s 0 0 (AG G)) (F0 m 116 ls [.int sv0]) := by
  refine lv_istore (lv' := [(4, .int sv0), (0, .ref (G.2.2 1042)), (1, .int xv1), (2, .int xv2), (3, .int xv3), (5, .int xv5)]) C.1.1 C.1.2.1 dX8_selected_116 hl (by decide) rfl (fun ls hl => ?_)
  exact uX8_selected_118 C hw hS xt1 xt2 xt3 st0 xt5 (lv_sub hl [1, 2, 3, 4, 0, 5] rfl) hP45 h
set_option maxHeartbeats 4000000 in
set_option maxRecDepth 10000 in
theorem uX8_selected_217 {p : Program} {l : Launch} {e : Env} {s : State} {m : MethodId} {args : Array Value} {below : List Frame} {meth : Method} {c : Code} {G : GG} {SB : St} (C : Cx p s m args meth c G RX8 cX8_selected 7 (some .int)) {S : St} {H : Heap} {locs : List Loc} {ls : Array Slot}  {k : Int → St → Prop} (hw : Wd G ((injR SB) S) H) (hS : va_S (AG G) s.heap H locs) {xv5 : Int32} {x5 : Int} (xt5 : xv5.toInt = x5) (hl : lv_has ls 7 [(0, .ref (G.2.2 1042)), (5, .int xv5)])  (h : wX8_selected_217 S x5 k) : W p l e (rmF 7 161) s m args below meth c H locs 0 0 (MQ below (QcI G (injR SB) k) args s 0 0 (AG G)) (F0 m 217 ls []) := by
  refine lv_aload_n C.1.1 C.1.2.1 dX8_selected_217 rfl (lv_at hl 0 rfl) ?_
  refine lv_aload_n C.1.1 C.1.2.1 dX8_selected_218 rfl (lv_at hl 0 rfl) ?_
  refine y_getA C fl_X8_155 hw (ocr SB) rfl (o := 39) rfl dX8_selected_219 ?_
  refine lv_iload C.1.1 C.1.2.1 dX8_selected_222 (lv_at hl 1 rfl) ?_
  obtain ⟨b2, h⟩ := h
  refine y_iald C hw (acr_55 SB) xt5 b2 dX8_selected_224 (fun v2 t2 => ?_)
  refine y_cVIp C (As := [.int v2]) (rest := []) ml_X8_419 (kX8_runs l G SB S t2 h) (ocr SB) (T := TX8) (N := 60) rfl (by decide) ⟨(Nat.le_of_ble_eq_true rfl), (Nat.le_of_ble_eq_true rfl)⟩ hl.1 rfl rfl (Nat.le_of_ble_eq_true rfl) hw hS dX8_selected_225 (fun v3 x_3 H locs t3 h hw hS => ?_)
  exact y_iret C hw hS t3 h dX8_selected_228
set_option maxHeartbeats 4000000 in
set_option maxRecDepth 10000 in
theorem uX8_selected_192 {p : Program} {l : Launch} {e : Env} {s : State} {m : MethodId} {args : Array Value} {below : List Frame} {meth : Method} {c : Code} {G : GG} {SB : St} (C : Cx p s m args meth c G RX8 cX8_selected 7 (some .int)) {S : St} {H : Heap} {locs : List Loc} {ls : Array Slot} {P167 : Int → Prop} {k : Int → St → Prop} (hw : Wd G ((injR SB) S) H) (hS : va_S (AG G) s.heap H locs) {xv1 : Int32} {x1 : Int} (xt1 : xv1.toInt = x1) {xv2 : Int32} {x2 : Int} (xt2 : xv2.toInt = x2) {xv4 : Int32} {x4 : Int} (xt4 : xv4.toInt = x4) {xv5 : Int32} {x5 : Int} (xt5 : xv5.toInt = x5) (hl : lv_has ls 7 [(0, .ref (G.2.2 1042)), (1, .int xv1), (2, .int xv2), (4, .int xv4), (5, .int xv5)]) (hP167 : ∀ {H : Heap} {locs : List Loc} {ls : Array Slot} {yv5 : Int32} {y5 : Int}, yv5.toInt = y5 → Wd G ((injR SB) S) H → va_S (AG G) s.heap H locs → lv_has ls 7 [(0, .ref (G.2.2 1042)), (1, .int xv1), (2, .int xv2), (4, .int xv4), (5, .int yv5)] → P167 y5 → W p l e (rmF 7 161) s m args below meth c H locs 0 0 (MQ below (QcI G (injR SB) k) args s 0 0 (AG G)) (F0 m 167 ls [])) (h : wX8_selected_192 S x1 x2 x4 x5 P167 k) : W p l e (rmF 7 161) s m args below meth c H locs 0 0 (MQ below (QcI G (injR SB) k) args s 0 0 (AG G)) (F0 m 192 ls []) := by
  refine lv_iload C.1.1 C.1.2.1 dX8_selected_192 (lv_at hl 3 rfl) ?_
  refine y_if_eq C xt4 dX8_selected_194 (tgt := 229) (by decide) (fun c1 => ?_) (fun c1 => ?_)
  · have h := h.1 c1
    obtain ⟨x_2, e2⟩ : ∃ z : Int, z = w32 (x5 + 1) := ⟨_, rfl⟩
    have h := h x_2 e2
    obtain ⟨v2, t2, g2⟩ : ∃ z : Int32, z.toInt = x_2 ∧ xv5 + Int32.ofInt 1 = z := ⟨_, (ti_inc xt5 ⟨by decide, by decide⟩).trans e2.symm, rfl⟩
    refine lv_iinc (v := v2) (lv' := [(5, .int v2), (0, .ref (G.2.2 1042)), (1, .int xv1), (2, .int xv2), (4, .int xv4)]) C.1.1 C.1.2.1 dX8_selected_229 hl (k := 4) rfl g2 (by decide) rfl (fun ls hl => ?_)
    refine lv_goto (tgt := 167) C.1.1 C.1.2.1 dX8_selected_232 (by decide) ?_
    exact hP167 t2 hw hS (lv_sub hl [1, 2, 3, 4, 0] rfl) h
  · have h := h.2 c1
    refine lv_aload_n C.1.1 C.1.2.1 dX8_selected_197 rfl (lv_at hl 0 rfl) ?_
    refine y_getA C fl_X8_158 hw (ocr SB) rfl (o := 40) rfl dX8_selected_198 ?_
    refine y_bipush C dX8_selected_201 ⟨by decide, by decide⟩ (fun v4 t4 => ?_)
    refine lv_iload C.1.1 C.1.2.1 dX8_selected_203 (lv_at hl 4 rfl) ?_
    refine y_imul C t4 xt5 dX8_selected_205 (fun v5 t5 => ?_)
    refine lv_aload_n C.1.1 C.1.2.1 dX8_selected_206 rfl (lv_at hl 0 rfl) ?_
    refine y_getI C fl_X8_413 hw (ocr SB) rfl dX8_selected_207 (fun v6 t6 => ?_)
    refine y_iadd C t5 t6 dX8_selected_210 (fun v7 t7 => ?_)
    refine y_iconst C dX8_selected_211 ⟨by decide, by decide⟩ (fun v8 t8 => ?_)
    refine y_isub C t7 t8 dX8_selected_212 (fun v9 t9 => ?_)
    obtain ⟨b10, h⟩ := h
    refine y_zald C hw (acr_57 SB) t9 b10 dX8_selected_213 (fun v10 t10 => ?_)
    refine y_if_eq C t10 dX8_selected_214 (tgt := 229) (by decide) (fun c11 => ?_) (fun c11 => ?_)
    · have h := h.1 c11
      obtain ⟨x_12, e12⟩ : ∃ z : Int, z = w32 (x5 + 1) := ⟨_, rfl⟩
      have h := h x_12 e12
      obtain ⟨v12, t12, g12⟩ : ∃ z : Int32, z.toInt = x_12 ∧ xv5 + Int32.ofInt 1 = z := ⟨_, (ti_inc xt5 ⟨by decide, by decide⟩).trans e12.symm, rfl⟩
      refine lv_iinc (v := v12) (lv' := [(5, .int v12), (0, .ref (G.2.2 1042)), (1, .int xv1), (2, .int xv2), (4, .int xv4)]) C.1.1 C.1.2.1 dX8_selected_229 hl (k := 4) rfl g12 (by decide) rfl (fun ls hl => ?_)
      refine lv_goto (tgt := 167) C.1.1 C.1.2.1 dX8_selected_232 (by decide) ?_
      exact hP167 t12 hw hS (lv_sub hl [1, 2, 3, 4, 0] rfl) h
    · have h := h.2 c11
      exact uX8_selected_217 C hw hS xt5 (lv_sub hl [0, 4] rfl)  h
set_option maxHeartbeats 4000000 in
set_option maxRecDepth 10000 in
theorem uX8_selected_235 {p : Program} {l : Launch} {e : Env} {s : State} {m : MethodId} {args : Array Value} {below : List Frame} {meth : Method} {c : Code} {G : GG} {SB : St} (C : Cx p s m args meth c G RX8 cX8_selected 7 (some .int)) {S : St} {H : Heap} {locs : List Loc} {ls : Array Slot}  {k : Int → St → Prop} (hw : Wd G ((injR SB) S) H) (hS : va_S (AG G) s.heap H locs) {xv1 : Int32} {x1 : Int} (xt1 : xv1.toInt = x1) {xv2 : Int32} {x2 : Int} (xt2 : xv2.toInt = x2) (hl : lv_has ls 7 [(0, .ref (G.2.2 1042)), (1, .int xv1), (2, .int xv2)])  (h : wX8_selected_235 S x1 x2 k) : W p l e (rmF 7 161) s m args below meth c H locs 0 0 (MQ below (QcI G (injR SB) k) args s 0 0 (AG G)) (F0 m 235 ls []) := by
  refine lv_aload_n C.1.1 C.1.2.1 dX8_selected_235 rfl (lv_at hl 0 rfl) ?_
  refine lv_iload_n C.1.1 C.1.2.1 dX8_selected_236 rfl (lv_at hl 2 rfl) ?_
  refine lv_aload_n C.1.1 C.1.2.1 dX8_selected_237 rfl (lv_at hl 0 rfl) ?_
  refine lv_iload_n C.1.1 C.1.2.1 dX8_selected_238 rfl (lv_at hl 1 rfl) ?_
  refine y_cVIp C (As := [.int xv1]) (rest := [.int xv2, .ref (G.2.2 1042)]) ml_X8_416 (kX8_soughtBy l G SB S xt1 h) (ocr SB) (T := TX8) (N := 60) rfl (by decide) ⟨(Nat.le_of_ble_eq_true rfl), (Nat.le_of_ble_eq_true rfl)⟩ hl.1 rfl rfl (Nat.le_of_ble_eq_true rfl) hw hS dX8_selected_239 (fun v1 x_1 H locs t1 h hw hS => ?_)
  refine y_cVV C (As := [.int xv2, .int v1]) (rest := []) ml_X8_407 (kX8_findSpecific l G SB S xt2 t1 h) (ocr SB) (T := TX8) (N := 60) rfl (by decide) ⟨(Nat.le_of_ble_eq_true rfl), (Nat.le_of_ble_eq_true rfl)⟩ hl.1 rfl rfl (Nat.le_of_ble_eq_true rfl) hw hS dX8_selected_242 (fun S_2 H locs h hw hS => ?_)
  refine lv_aload_n C.1.1 C.1.2.1 dX8_selected_245 rfl (lv_at hl 0 rfl) ?_
  refine y_cVV C (As := []) (rest := []) ml_X8_410 (kX8_countBodies l G SB S_2  h) (ocr SB) (T := TX8) (N := 60) rfl (by decide) ⟨(Nat.le_of_ble_eq_true rfl), (Nat.le_of_ble_eq_true rfl)⟩ hl.1 rfl rfl (Nat.le_of_ble_eq_true rfl) hw hS dX8_selected_246 (fun S_3 H locs h hw hS => ?_)
  refine lv_aload_n C.1.1 C.1.2.1 dX8_selected_249 rfl (lv_at hl 0 rfl) ?_
  refine y_getI C fl_X8_401 hw (ocr SB) rfl dX8_selected_250 (fun v4 t4 => ?_)
  refine y_iconst C dX8_selected_253 ⟨by decide, by decide⟩ (fun v5 t5 => ?_)
  refine y_icmp_ne C t4 t5 dX8_selected_254 (tgt := 264) (by decide) (fun c6 => ?_) (fun c6 => ?_)
  · have h := h.1 c6
    refine lv_aload_n C.1.1 C.1.2.1 dX8_selected_264 rfl (lv_at hl 0 rfl) ?_
    refine y_getI C fl_X8_401 hw (ocr SB) rfl dX8_selected_265 (fun v7 t7 => ?_)
    refine y_if_ne C t7 dX8_selected_268 (tgt := 276) (by decide) (fun c8 => ?_) (fun c8 => ?_)
    · have h := h.1 c8
      refine y_bipush C dX8_selected_276 ⟨by decide, by decide⟩ (fun v9 t9 => ?_)
      exact y_iret C hw hS t9 h dX8_selected_278
    · have h := h.2 c8
      refine y_bipush C dX8_selected_271 ⟨by decide, by decide⟩ (fun v10 t10 => ?_)
      refine lv_goto (tgt := 278) C.1.1 C.1.2.1 dX8_selected_273 (by decide) ?_
      exact y_iret C hw hS t10 h dX8_selected_278
  · have h := h.2 c6
    refine lv_aload_n C.1.1 C.1.2.1 dX8_selected_257 rfl (lv_at hl 0 rfl) ?_
    refine y_getI C fl_X8_404 hw (ocr SB) rfl dX8_selected_258 (fun v11 t11 => ?_)
    refine lv_goto (tgt := 278) C.1.1 C.1.2.1 dX8_selected_261 (by decide) ?_
    exact y_iret C hw hS t11 h dX8_selected_278
set_option maxHeartbeats 4000000 in
set_option maxRecDepth 10000 in
theorem uX8_selected_167_b {p : Program} {l : Launch} {e : Env} {s : State} {m : MethodId} {args : Array Value} {below : List Frame} {meth : Method} {c : Code} {G : GG} {SB : St} (C : Cx p s m args meth c G RX8 cX8_selected 7 (some .int)) {S : St} {H : Heap} {locs : List Loc} {ls : Array Slot}  {P167 : Int → Prop} {k : Int → St → Prop} (hw : Wd G ((injR SB) S) H) (hS : va_S (AG G) s.heap H locs) {xv1 : Int32} {x1 : Int} (xt1 : xv1.toInt = x1) {xv2 : Int32} {x2 : Int} (xt2 : xv2.toInt = x2) {xv4 : Int32} {x4 : Int} (xt4 : xv4.toInt = x4) {xv5 : Int32} {x5 : Int} (xt5 : xv5.toInt = x5) (hl : lv_has ls 7 [(0, .ref (G.2.2 1042)), (1, .int xv1), (2, .int xv2), (4, .int xv4), (5, .int xv5)])  (hP167 : ∀ {H : Heap} {locs : List Loc} {ls : Array Slot} {yv5 : Int32} {y5 : Int}, yv5.toInt = y5 → Wd G ((injR SB) S) H → va_S (AG G) s.heap H locs → lv_has ls 7 [(0, .ref (G.2.2 1042)), (1, .int xv1), (2, .int xv2), (4, .int xv4), (5, .int yv5)] → P167 y5 → W p l e (rmF 7 161) s m args below meth c H locs 0 0 (MQ below (QcI G (injR SB) k) args s 0 0 (AG G)) (F0 m 167 ls [])) (h : wX8_selected_167_b S x1 x2 x4 x5 P167 k) : W p l e (rmF 7 161) s m args below meth c H locs 0 0 (MQ below (QcI G (injR SB) k) args s 0 0 (AG G)) (F0 m 167 ls []) := by
  refine lv_iload C.1.1 C.1.2.1 dX8_selected_167 (lv_at hl 4 rfl) ?_
  refine lv_aload_n C.1.1 C.1.2.1 dX8_selected_169 rfl (lv_at hl 0 rfl) ?_
  refine y_getI C fl_X8_413 hw (ocr SB) rfl dX8_selected_170 (fun v1 t1 => ?_)
  refine y_icmp_ge C xt5 t1 dX8_selected_173 (tgt := 235) (by decide) (fun c2 => ?_) (fun c2 => ?_)
  · have h := h.1 c2
    exact uX8_selected_235 C hw hS xt1 xt2 (lv_sub hl [0, 1, 2] rfl)  h
  · have h := h.2 c2
    refine lv_iload C.1.1 C.1.2.1 dX8_selected_176 (lv_at hl 4 rfl) ?_
    refine lv_aload_n C.1.1 C.1.2.1 dX8_selected_178 rfl (lv_at hl 0 rfl) ?_
    refine y_getI C fl_X8_413 hw (ocr SB) rfl dX8_selected_179 (fun v3 t3 => ?_)
    refine y_iconst C dX8_selected_182 ⟨by decide, by decide⟩ (fun v4 t4 => ?_)
    refine y_isub C t3 t4 dX8_selected_183 (fun v5 t5 => ?_)
    refine y_icmp_ne C xt5 t5 dX8_selected_184 (tgt := 192) (by decide) (fun c6 => ?_) (fun c6 => ?_)
    · have h := h.1 c6
      exact uX8_selected_192 C hw hS xt1 xt2 xt4 xt5 (lv_sub hl [0, 1, 2, 3, 4] rfl) hP167 h
    · have h := h.2 c6
      refine lv_iload C.1.1 C.1.2.1 dX8_selected_187 (lv_at hl 3 rfl) ?_
      refine y_if_ne C xt4 dX8_selected_189 (tgt := 217) (by decide) (fun c7 => ?_) (fun c7 => ?_)
      · have h := h.1 c7
        exact uX8_selected_217 C hw hS xt5 (lv_sub hl [0, 4] rfl)  h
      · have h := h.2 c7
        exact uX8_selected_192 C hw hS xt1 xt2 xt4 xt5 (lv_sub hl [0, 1, 2, 3, 4] rfl) hP167 h
set_option maxHeartbeats 4000000 in
set_option maxRecDepth 10000 in
theorem uX8_selected_167 {p : Program} {l : Launch} {e : Env} {s : State} {m : MethodId} {args : Array Value} {below : List Frame} {meth : Method} {c : Code} {G : GG} {SB : St} (C : Cx p s m args meth c G RX8 cX8_selected 7 (some .int)) {S : St} {H : Heap} {locs : List Loc} {ls : Array Slot}  {k : Int → St → Prop} (hw : Wd G ((injR SB) S) H) (hS : va_S (AG G) s.heap H locs) {xv1 : Int32} {x1 : Int} (xt1 : xv1.toInt = x1) {xv2 : Int32} {x2 : Int} (xt2 : xv2.toInt = x2) {xv4 : Int32} {x4 : Int} (xt4 : xv4.toInt = x4) {xv5 : Int32} {x5 : Int} (xt5 : xv5.toInt = x5) (hl : lv_has ls 7 [(0, .ref (G.2.2 1042)), (1, .int xv1), (2, .int xv2), (4, .int xv4), (5, .int xv5)])  (h : wX8_selected_167 S x1 x2 x4 x5 k) : W p l e (rmF 7 161) s m args below meth c H locs 0 0 (MQ below (QcI G (injR SB) k) args s 0 0 (AG G)) (F0 m 167 ls []) := by
  have key : ∀ (n : Nat) {H : Heap} {locs : List Loc} {ls : Array Slot} {xv5 : Int32} {x5 : Int}, xv5.toInt = x5 → Wd G ((injR SB) S) H → va_S (AG G) s.heap H locs → lv_has ls 7 [(0, .ref (G.2.2 1042)), (1, .int xv1), (2, .int xv2), (4, .int xv4), (5, .int xv5)] → itP (fun (P : Int → Prop) (a : Int) => wX8_selected_167_b S x1 x2 x4 a (fun b0 => P (b0)) k) n (x5) → W p l e (rmF 7 161) s m args below meth c H locs 0 0 (MQ below (QcI G (injR SB) k) args s 0 0 (AG G)) (F0 m 167 ls []) := by
    intro n
    induction n with
    | zero => intro H locs ls xv5 x5 xt5 hw hS hl h; exact h.elim
    | succ n ih =>
      intro H locs ls xv5 x5 xt5 hw hS hl h
      exact uX8_selected_167_b C hw hS xt1 xt2 xt4 xt5 hl  (P167 := fun b0 => itP _ n (b0)) (fun q0 hw hS hl h => ih q0 hw hS hl h) h
  obtain ⟨n, hn⟩ := h
  exact key n xt5 hw hS hl hn
set_option maxHeartbeats 4000000 in
set_option maxRecDepth 10000 in
theorem uX8_selected_156 {p : Program} {l : Launch} {e : Env} {s : State} {m : MethodId} {args : Array Value} {below : List Frame} {meth : Method} {c : Code} {G : GG} {SB : St} (C : Cx p s m args meth c G RX8 cX8_selected 7 (some .int)) {S : St} {H : Heap} {locs : List Loc} {ls : Array Slot}  {k : Int → St → Prop} (hw : Wd G ((injR SB) S) H) (hS : va_S (AG G) s.heap H locs) {xv1 : Int32} {x1 : Int} (xt1 : xv1.toInt = x1) {xv2 : Int32} {x2 : Int} (xt2 : xv2.toInt = x2) {xv3 : Int32} {x3 : Int} (xt3 : xv3.toInt = x3) {xv4 : Int32} {x4 : Int} (xt4 : xv4.toInt = x4) (hl : lv_has ls 7 [(0, .ref (G.2.2 1042)), (1, .int xv1), (2, .int xv2), (3, .int xv3), (4, .int xv4)])  (h : wX8_selected_156 S x1 x2 x3 x4 k) : W p l e (rmF 7 161) s m args below meth c H locs 0 0 (MQ below (QcI G (injR SB) k) args s 0 0 (AG G)) (F0 m 156 ls []) := by
  refine lv_iload_n C.1.1 C.1.2.1 dX8_selected_156 rfl (lv_at hl 3 rfl) ?_
  refine y_if_ne C xt3 dX8_selected_157 (tgt := 235) (by decide) (fun c1 => ?_) (fun c1 => ?_)
  · have h := h.1 c1
    exact uX8_selected_235 C hw hS xt1 xt2 (lv_sub hl [0, 1, 2] rfl)  h
  · have h := h.2 c1
    refine lv_aload_n C.1.1 C.1.2.1 dX8_selected_160 rfl (lv_at hl 0 rfl) ?_
    refine y_cVV C (As := []) (rest := []) ml_X8_422 (kX8_findCan l G SB S  h) (ocr SB) (T := TX8) (N := 60) rfl (by decide) ⟨(Nat.le_of_ble_eq_true rfl), (Nat.le_of_ble_eq_true rfl)⟩ hl.1 rfl rfl (Nat.le_of_ble_eq_true rfl) hw hS dX8_selected_161 (fun S_2 H locs h hw hS => ?_)
    refine y_iconst C dX8_selected_164 ⟨by decide, by decide⟩ (fun v3 t3 => ?_)
    refine lv_istore (lv' := [(5, .int v3), (0, .ref (G.2.2 1042)), (1, .int xv1), (2, .int xv2), (3, .int xv3), (4, .int xv4)]) C.1.1 C.1.2.1 dX8_selected_165 hl (by decide) rfl (fun ls hl => ?_)
    exact uX8_selected_167 C hw hS xt1 xt2 xt4 t3 (lv_sub hl [1, 2, 3, 5, 0] rfl)  h
set_option maxHeartbeats 4000000 in
set_option maxRecDepth 10000 in
theorem uX8_selected_134 {p : Program} {l : Launch} {e : Env} {s : State} {m : MethodId} {args : Array Value} {below : List Frame} {meth : Method} {c : Code} {G : GG} {SB : St} (C : Cx p s m args meth c G RX8 cX8_selected 7 (some .int)) {S : St} {H : Heap} {locs : List Loc} {ls : Array Slot}  {k : Int → St → Prop} (hw : Wd G ((injR SB) S) H) (hS : va_S (AG G) s.heap H locs) {xv1 : Int32} {x1 : Int} (xt1 : xv1.toInt = x1) {xv2 : Int32} {x2 : Int} (xt2 : xv2.toInt = x2) {xv3 : Int32} {x3 : Int} (xt3 : xv3.toInt = x3) {xv4 : Int32} {x4 : Int} (xt4 : xv4.toInt = x4) (hl : lv_has ls 7 [(0, .ref (G.2.2 1042)), (1, .int xv1), (2, .int xv2), (3, .int xv3), (4, .int xv4)])  (h : wX8_selected_134 S x1 x2 x3 x4 k) : W p l e (rmF 7 161) s m args below meth c H locs 0 0 (MQ below (QcI G (injR SB) k) args s 0 0 (AG G)) (F0 m 134 ls []) := by
  refine lv_iload_n C.1.1 C.1.2.1 dX8_selected_134 rfl (lv_at hl 3 rfl) ?_
  refine y_if_eq C xt3 dX8_selected_135 (tgt := 156) (by decide) (fun c1 => ?_) (fun c1 => ?_)
  · have h := h.1 c1
    exact uX8_selected_156 C hw hS xt1 xt2 xt3 xt4 (lv_sub hl [0, 1, 2, 3, 4] rfl)  h
  · have h := h.2 c1
    refine lv_aload_n C.1.1 C.1.2.1 dX8_selected_138 rfl (lv_at hl 0 rfl) ?_
    refine y_getI C fl_X8_413 hw (ocr SB) rfl dX8_selected_139 (fun v2 t2 => ?_)
    refine y_if_le C t2 dX8_selected_142 (tgt := 156) (by decide) (fun c3 => ?_) (fun c3 => ?_)
    · have h := h.1 c3
      exact uX8_selected_156 C hw hS xt1 xt2 xt3 xt4 (lv_sub hl [0, 1, 2, 3, 4] rfl)  h
    · have h := h.2 c3
      refine lv_aload_n C.1.1 C.1.2.1 dX8_selected_145 rfl (lv_at hl 0 rfl) ?_
      refine lv_aload_n C.1.1 C.1.2.1 dX8_selected_146 rfl (lv_at hl 0 rfl) ?_
      refine y_getA C fl_X8_155 hw (ocr SB) rfl (o := 39) rfl dX8_selected_147 ?_
      refine y_iconst C dX8_selected_150 ⟨by decide, by decide⟩ (fun v5 t5 => ?_)
      refine y_iald C hw (acr_55 SB) t5 ⟨by decide, by decide⟩ dX8_selected_151 (fun v6 t6 => ?_)
      refine y_cVIp C (As := [.int v6]) (rest := []) ml_X8_419 (kX8_runs l G SB S t6 h) (ocr SB) (T := TX8) (N := 60) rfl (by decide) ⟨(Nat.le_of_ble_eq_true rfl), (Nat.le_of_ble_eq_true rfl)⟩ hl.1 rfl rfl (Nat.le_of_ble_eq_true rfl) hw hS dX8_selected_152 (fun v7 x_7 H locs t7 h hw hS => ?_)
      exact y_iret C hw hS t7 h dX8_selected_155
set_option maxHeartbeats 4000000 in
set_option maxRecDepth 10000 in
theorem uX8_selected_45_b {p : Program} {l : Launch} {e : Env} {s : State} {m : MethodId} {args : Array Value} {below : List Frame} {meth : Method} {c : Code} {G : GG} {SB : St} (C : Cx p s m args meth c G RX8 cX8_selected 7 (some .int)) {S : St} {H : Heap} {locs : List Loc} {ls : Array Slot}  {P45 : Int → Int → St → Prop} {k : Int → St → Prop} (hw : Wd G ((injR SB) S) H) (hS : va_S (AG G) s.heap H locs) {xv1 : Int32} {x1 : Int} (xt1 : xv1.toInt = x1) {xv2 : Int32} {x2 : Int} (xt2 : xv2.toInt = x2) {xv3 : Int32} {x3 : Int} (xt3 : xv3.toInt = x3) {xv4 : Int32} {x4 : Int} (xt4 : xv4.toInt = x4) {xv5 : Int32} {x5 : Int} (xt5 : xv5.toInt = x5) (hl : lv_has ls 7 [(0, .ref (G.2.2 1042)), (1, .int xv1), (2, .int xv2), (3, .int xv3), (4, .int xv4), (5, .int xv5)])  (hP45 : ∀ {H : Heap} {locs : List Loc} {ls : Array Slot} {Sy : St} {yv4 : Int32} {y4 : Int} {yv5 : Int32} {y5 : Int}, yv4.toInt = y4 → yv5.toInt = y5 → Wd G ((injR SB) Sy) H → va_S (AG G) s.heap H locs → lv_has ls 7 [(0, .ref (G.2.2 1042)), (1, .int xv1), (2, .int xv2), (3, .int xv3), (4, .int yv4), (5, .int yv5)] → P45 y4 y5 Sy → W p l e (rmF 7 161) s m args below meth c H locs 0 0 (MQ below (QcI G (injR SB) k) args s 0 0 (AG G)) (F0 m 45 ls [])) (h : wX8_selected_45_b S x1 x2 x3 x4 x5 P45 k) : W p l e (rmF 7 161) s m args below meth c H locs 0 0 (MQ below (QcI G (injR SB) k) args s 0 0 (AG G)) (F0 m 45 ls []) := by
  refine lv_iload C.1.1 C.1.2.1 dX8_selected_45 (lv_at hl 5 rfl) ?_
  refine y_bipush C dX8_selected_47 ⟨by decide, by decide⟩ (fun v1 t1 => ?_)
  refine y_icmp_eq C xt5 t1 dX8_selected_49 (tgt := 134) (by decide) (fun c2 => ?_) (fun c2 => ?_)
  · have h := h.1 c2
    exact uX8_selected_134 C hw hS xt1 xt2 xt3 xt4 (lv_sub hl [0, 1, 2, 3, 4] rfl)  h
  · have h := h.2 c2
    refine lv_iload C.1.1 C.1.2.1 dX8_selected_52 (lv_at hl 4 rfl) ?_
    refine y_if_ne C xt4 dX8_selected_54 (tgt := 134) (by decide) (fun c3 => ?_) (fun c3 => ?_)
    · have h := h.1 c3
      exact uX8_selected_134 C hw hS xt1 xt2 xt3 xt4 (lv_sub hl [0, 1, 2, 3, 4] rfl)  h
    · have h := h.2 c3
      refine lv_aload_n C.1.1 C.1.2.1 dX8_selected_57 rfl (lv_at hl 0 rfl) ?_
      refine lv_iload C.1.1 C.1.2.1 dX8_selected_58 (lv_at hl 5 rfl) ?_
      refine lv_aload_n C.1.1 C.1.2.1 dX8_selected_60 rfl (lv_at hl 0 rfl) ?_
      refine lv_iload_n C.1.1 C.1.2.1 dX8_selected_61 rfl (lv_at hl 1 rfl) ?_
      refine y_cVIp C (As := [.int xv1]) (rest := [.int xv5, .ref (G.2.2 1042)]) ml_X8_416 (kX8_soughtBy l G SB S xt1 h) (ocr SB) (T := TX8) (N := 60) rfl (by decide) ⟨(Nat.le_of_ble_eq_true rfl), (Nat.le_of_ble_eq_true rfl)⟩ hl.1 rfl rfl (Nat.le_of_ble_eq_true rfl) hw hS dX8_selected_62 (fun v4 x_4 H locs t4 h hw hS => ?_)
      refine y_cVIp C (As := [.int xv5, .int v4]) (rest := []) ml_X8_392 (kX8_methodIn l G SB S xt5 t4 h) (ocr SB) (T := TX8) (N := 60) rfl (by decide) ⟨(Nat.le_of_ble_eq_true rfl), (Nat.le_of_ble_eq_true rfl)⟩ hl.1 rfl rfl (Nat.le_of_ble_eq_true rfl) hw hS dX8_selected_65 (fun v5 x_5 H locs t5 h hw hS => ?_)
      refine lv_istore (lv' := [(6, .int v5), (0, .ref (G.2.2 1042)), (1, .int xv1), (2, .int xv2), (3, .int xv3), (4, .int xv4), (5, .int xv5)]) C.1.1 C.1.2.1 dX8_selected_68 hl (by decide) rfl (fun ls hl => ?_)
      refine lv_iload C.1.1 C.1.2.1 dX8_selected_70 (lv_at hl 0 rfl) ?_
      refine y_if_lt C t5 dX8_selected_72 (tgt := 118) (by decide) (fun c6 => ?_) (fun c6 => ?_)
      · have h := h.1 c6
        exact uX8_selected_118 C hw hS xt1 xt2 xt3 xt4 xt5 (lv_sub hl [1, 2, 3, 4, 5, 6] rfl) hP45 h
      · have h := h.2 c6
        refine lv_aload_n C.1.1 C.1.2.1 dX8_selected_75 rfl (lv_at hl 1 rfl) ?_
        refine lv_iload C.1.1 C.1.2.1 dX8_selected_76 (lv_at hl 0 rfl) ?_
        refine y_cVIp C (As := [.int v5]) (rest := []) ml_X8_395 (kX8_isPlain l G SB S t5 h) (ocr SB) (T := TX8) (N := 60) rfl (by decide) ⟨(Nat.le_of_ble_eq_true rfl), (Nat.le_of_ble_eq_true rfl)⟩ hl.1 rfl rfl (Nat.le_of_ble_eq_true rfl) hw hS dX8_selected_78 (fun v7 x_7 H locs t7 h hw hS => ?_)
        refine y_if_eq C t7 dX8_selected_81 (tgt := 118) (by decide) (fun c8 => ?_) (fun c8 => ?_)
        · have h := h.1 c8
          exact uX8_selected_118 C hw hS xt1 xt2 xt3 xt4 xt5 (lv_sub hl [1, 2, 3, 4, 5, 6] rfl) hP45 h
        · have h := h.2 c8
          refine lv_aload_n C.1.1 C.1.2.1 dX8_selected_84 rfl (lv_at hl 1 rfl) ?_
          refine y_getA C fl_X8_155 hw (ocr SB) rfl (o := 39) rfl dX8_selected_85 ?_
          refine lv_aload_n C.1.1 C.1.2.1 dX8_selected_88 rfl (lv_at hl 1 rfl) ?_
          refine y_getI C fl_X8_413 hw (ocr SB) rfl dX8_selected_89 (fun v10 t10 => ?_)
          refine lv_iload C.1.1 C.1.2.1 dX8_selected_92 (lv_at hl 0 rfl) ?_
          obtain ⟨b11, h⟩ := h
          obtain ⟨S_11, e11⟩ : ∃ z : St, z = up S 39 (S 0 56) x_5 := ⟨_, rfl⟩
          have h := h S_11 e11
          refine y_iast C hw hS (acr_55 SB) t10 t5 b11 dX8_selected_94 (fun H locs hw hS => ?_)
          have hw : Wd G ((injR SB) S_11) H := by rw [e11]; exact hw
          refine lv_aload_n C.1.1 C.1.2.1 dX8_selected_95 rfl (lv_at hl 1 rfl) ?_
          refine lv_dup C.1.1 C.1.2.1 dX8_selected_96 rfl ?_
          refine y_getI C fl_X8_413 hw (ocr SB) rfl dX8_selected_97 (fun v12 t12 => ?_)
          refine y_iconst C dX8_selected_100 ⟨by decide, by decide⟩ (fun v13 t13 => ?_)
          refine y_iadd C t12 t13 dX8_selected_101 (fun v14 t14 => ?_)
          obtain ⟨S_15, e15⟩ : ∃ z : St, z = up S_11 0 56 (w32 (S_11 0 56 + 1)) := ⟨_, rfl⟩
          have h := h S_15 e15
          refine y_putI C fl_X8_413 fp_8_56 hw hS (ocr SB) rfl t14 dX8_selected_102 (fun H locs hw hS => ?_)
          have hw : Wd G ((injR SB) S_15) H := by rw [e15]; exact hw
          refine lv_iload C.1.1 C.1.2.1 dX8_selected_105 (lv_at hl 0 rfl) ?_
          refine lv_iload_n C.1.1 C.1.2.1 dX8_selected_107 rfl (lv_at hl 2 rfl) ?_
          refine y_icmp_ne C t5 xt1 dX8_selected_108 (tgt := 115) (by decide) (fun c16 => ?_) (fun c16 => ?_)
          · have h := h.1 c16
            refine y_iconst C dX8_selected_115 ⟨by decide, by decide⟩ (fun v17 t17 => ?_)
            exact uX8_selected_116 C hw hS xt1 xt2 xt3 xt5 t17 (lv_sub hl [1, 2, 3, 4, 6] rfl) hP45 h
          · have h := h.2 c16
            refine y_iconst C dX8_selected_111 ⟨by decide, by decide⟩ (fun v18 t18 => ?_)
            refine lv_goto (tgt := 116) C.1.1 C.1.2.1 dX8_selected_112 (by decide) ?_
            exact uX8_selected_116 C hw hS xt1 xt2 xt3 xt5 t18 (lv_sub hl [1, 2, 3, 4, 6] rfl) hP45 h
set_option maxHeartbeats 4000000 in
set_option maxRecDepth 10000 in
theorem uX8_selected_45 {p : Program} {l : Launch} {e : Env} {s : State} {m : MethodId} {args : Array Value} {below : List Frame} {meth : Method} {c : Code} {G : GG} {SB : St} (C : Cx p s m args meth c G RX8 cX8_selected 7 (some .int)) {S : St} {H : Heap} {locs : List Loc} {ls : Array Slot}  {k : Int → St → Prop} (hw : Wd G ((injR SB) S) H) (hS : va_S (AG G) s.heap H locs) {xv1 : Int32} {x1 : Int} (xt1 : xv1.toInt = x1) {xv2 : Int32} {x2 : Int} (xt2 : xv2.toInt = x2) {xv3 : Int32} {x3 : Int} (xt3 : xv3.toInt = x3) {xv4 : Int32} {x4 : Int} (xt4 : xv4.toInt = x4) {xv5 : Int32} {x5 : Int} (xt5 : xv5.toInt = x5) (hl : lv_has ls 7 [(0, .ref (G.2.2 1042)), (1, .int xv1), (2, .int xv2), (3, .int xv3), (4, .int xv4), (5, .int xv5)])  (h : wX8_selected_45 S x1 x2 x3 x4 x5 k) : W p l e (rmF 7 161) s m args below meth c H locs 0 0 (MQ below (QcI G (injR SB) k) args s 0 0 (AG G)) (F0 m 45 ls []) := by
  have key : ∀ (n : Nat) {H : Heap} {locs : List Loc} {ls : Array Slot} {S : St} {xv4 : Int32} {x4 : Int} {xv5 : Int32} {x5 : Int}, xv4.toInt = x4 → xv5.toInt = x5 → Wd G ((injR SB) S) H → va_S (AG G) s.heap H locs → lv_has ls 7 [(0, .ref (G.2.2 1042)), (1, .int xv1), (2, .int xv2), (3, .int xv3), (4, .int xv4), (5, .int xv5)] → itP (fun (P : Int × Int × St → Prop) (a : Int × Int × St) => wX8_selected_45_b a.2.2 x1 x2 x3 a.1 a.2.1 (fun b0 b1 b2 => P (b0, b1, b2)) k) n (x4, x5, S) → W p l e (rmF 7 161) s m args below meth c H locs 0 0 (MQ below (QcI G (injR SB) k) args s 0 0 (AG G)) (F0 m 45 ls []) := by
    intro n
    induction n with
    | zero => intro H locs ls S xv4 x4 xv5 x5 xt4 xt5 hw hS hl h; exact h.elim
    | succ n ih =>
      intro H locs ls S xv4 x4 xv5 x5 xt4 xt5 hw hS hl h
      exact uX8_selected_45_b C hw hS xt1 xt2 xt3 xt4 xt5 hl  (P45 := fun b0 b1 b2 => itP _ n (b0, b1, b2)) (fun q0 q1 hw hS hl h => ih q0 q1 hw hS hl h) h
  obtain ⟨n, hn⟩ := h
  exact key n xt4 xt5 hw hS hl hn
set_option maxHeartbeats 4000000 in
set_option maxRecDepth 10000 in
theorem uX8_selected_33 {p : Program} {l : Launch} {e : Env} {s : State} {m : MethodId} {args : Array Value} {below : List Frame} {meth : Method} {c : Code} {G : GG} {SB : St} (C : Cx p s m args meth c G RX8 cX8_selected 7 (some .int)) {S : St} {H : Heap} {locs : List Loc} {ls : Array Slot}  {k : Int → St → Prop} (hw : Wd G ((injR SB) S) H) (hS : va_S (AG G) s.heap H locs) {xv1 : Int32} {x1 : Int} (xt1 : xv1.toInt = x1) {xv2 : Int32} {x2 : Int} (xt2 : xv2.toInt = x2) {sv0 : Int32} {s0 : Int} (st0 : sv0.toInt = s0) (hl : lv_has ls 7 [(0, .ref (G.2.2 1042)), (1, .int xv1), (2, .int xv2)])  (h : wX8_selected_33 S x1 x2 s0 k) : W p l e (rmF 7 161) s m args below meth c H locs 0 0 (MQ below (QcI G (injR SB) k) args s 0 0 (AG G)) (F0 m 33 ls [.int sv0]) := by
  refine lv_istore_n (lv' := [(3, .int sv0), (0, .ref (G.2.2 1042)), (1, .int xv1), (2, .int xv2)]) C.1.1 C.1.2.1 dX8_selected_33 rfl hl (by decide) rfl (fun ls hl => ?_)
  refine lv_aload_n C.1.1 C.1.2.1 dX8_selected_34 rfl (lv_at hl 1 rfl) ?_
  refine y_iconst C dX8_selected_35 ⟨by decide, by decide⟩ (fun v1 t1 => ?_)
  obtain ⟨S_2, e2⟩ : ∃ z : St, z = up S 0 56 0 := ⟨_, rfl⟩
  have h := h S_2 e2
  refine y_putI C fl_X8_413 fp_8_56 hw hS (ocr SB) rfl t1 dX8_selected_36 (fun H locs hw hS => ?_)
  have hw : Wd G ((injR SB) S_2) H := by rw [e2]; exact hw
  refine y_iconst C dX8_selected_39 ⟨by decide, by decide⟩ (fun v3 t3 => ?_)
  refine lv_istore (lv' := [(4, .int v3), (3, .int sv0), (0, .ref (G.2.2 1042)), (1, .int xv1), (2, .int xv2)]) C.1.1 C.1.2.1 dX8_selected_40 hl (by decide) rfl (fun ls hl => ?_)
  refine lv_iload_n C.1.1 C.1.2.1 dX8_selected_42 rfl (lv_at hl 4 rfl) ?_
  refine lv_istore (lv' := [(5, .int xv2), (4, .int v3), (3, .int sv0), (0, .ref (G.2.2 1042)), (1, .int xv1), (2, .int xv2)]) C.1.1 C.1.2.1 dX8_selected_43 hl (by decide) rfl (fun ls hl => ?_)
  exact uX8_selected_45 C hw hS xt1 xt2 st0 t3 xt2 (lv_sub hl [3, 4, 5, 2, 1, 0] rfl)  h
set_option maxHeartbeats 4000000 in
set_option maxRecDepth 10000 in
theorem uX8_selected_0 {p : Program} {l : Launch} {e : Env} {s : State} {m : MethodId} {args : Array Value} {below : List Frame} {meth : Method} {c : Code} {G : GG} {SB : St} (C : Cx p s m args meth c G RX8 cX8_selected 7 (some .int)) {S : St} {H : Heap} {locs : List Loc} {ls : Array Slot}  {k : Int → St → Prop} (hw : Wd G ((injR SB) S) H) (hS : va_S (AG G) s.heap H locs) {xv1 : Int32} {x1 : Int} (xt1 : xv1.toInt = x1) {xv2 : Int32} {x2 : Int} (xt2 : xv2.toInt = x2) (hl : lv_has ls 7 [(0, .ref (G.2.2 1042)), (1, .int xv1), (2, .int xv2)])  (h : wX8_selected_0 S x1 x2 k) : W p l e (rmF 7 161) s m args below meth c H locs 0 0 (MQ below (QcI G (injR SB) k) args s 0 0 (AG G)) (F0 m 0 ls []) := by
  refine lv_aload_n C.1.1 C.1.2.1 dX8_selected_0 rfl (lv_at hl 0 rfl) ?_
  refine lv_iload_n C.1.1 C.1.2.1 dX8_selected_1 rfl (lv_at hl 1 rfl) ?_
  refine y_cVIp C (As := [.int xv1]) (rest := []) ml_X8_383 (kX8_accessOf l G SB S xt1 h) (ocr SB) (T := TX8) (N := 60) rfl (by decide) ⟨(Nat.le_of_ble_eq_true rfl), (Nat.le_of_ble_eq_true rfl)⟩ hl.1 rfl rfl (Nat.le_of_ble_eq_true rfl) hw hS dX8_selected_2 (fun v1 x_1 H locs t1 h hw hS => ?_)
  refine y_if_ne C t1 dX8_selected_5 (tgt := 10) (by decide) (fun c2 => ?_) (fun c2 => ?_)
  · have h := h.1 c2
    refine lv_aload_n C.1.1 C.1.2.1 dX8_selected_10 rfl (lv_at hl 0 rfl) ?_
    refine y_getA C fl_X8_70 hw (ocr SB) rfl (o := 11) rfl dX8_selected_11 ?_
    refine lv_aload_n C.1.1 C.1.2.1 dX8_selected_14 rfl (lv_at hl 0 rfl) ?_
    refine lv_aload_n C.1.1 C.1.2.1 dX8_selected_15 rfl (lv_at hl 0 rfl) ?_
    refine lv_iload_n C.1.1 C.1.2.1 dX8_selected_16 rfl (lv_at hl 1 rfl) ?_
    refine y_cVIp C (As := [.int xv1]) (rest := [.ref (G.2.2 1042), .ref (G.2.2 (1053))]) ml_X8_398 (kX8_ownerOf l G SB S xt1 h) (ocr SB) (T := TX8) (N := 60) rfl (by decide) ⟨(Nat.le_of_ble_eq_true rfl), (Nat.le_of_ble_eq_true rfl)⟩ hl.1 rfl rfl (Nat.le_of_ble_eq_true rfl) hw hS dX8_selected_17 (fun v4 x_4 H locs t4 h hw hS => ?_)
    refine y_cVIp C (As := [.int v4]) (rest := [.ref (G.2.2 (1053))]) ml_X8_214 (kX8_t l G SB S t4 h) (ocr SB) (T := TX8) (N := 60) rfl (by decide) ⟨(Nat.le_of_ble_eq_true rfl), (Nat.le_of_ble_eq_true rfl)⟩ hl.1 rfl rfl (Nat.le_of_ble_eq_true rfl) hw hS dX8_selected_20 (fun v5 x_5 H locs t5 h hw hS => ?_)
    obtain ⟨b6, h⟩ := h
    refine y_iald C hw (acr_20 SB) t5 b6 dX8_selected_23 (fun v6 t6 => ?_)
    refine y_iconst C dX8_selected_24 ⟨by decide, by decide⟩ (fun v7 t7 => ?_)
    refine y_icmp_ne C t6 t7 dX8_selected_25 (tgt := 32) (by decide) (fun c8 => ?_) (fun c8 => ?_)
    · have h := h.1 c8
      refine y_iconst C dX8_selected_32 ⟨by decide, by decide⟩ (fun v9 t9 => ?_)
      exact uX8_selected_33 C hw hS xt1 xt2 t9 (lv_sub hl [0, 1, 2] rfl)  h
    · have h := h.2 c8
      refine y_iconst C dX8_selected_28 ⟨by decide, by decide⟩ (fun v10 t10 => ?_)
      refine lv_goto (tgt := 33) C.1.1 C.1.2.1 dX8_selected_29 (by decide) ?_
      exact uX8_selected_33 C hw hS xt1 xt2 t10 (lv_sub hl [0, 1, 2] rfl)  h
  · have h := h.2 c2
    refine lv_iload_n C.1.1 C.1.2.1 dX8_selected_8 rfl (lv_at hl 1 rfl) ?_
    exact y_iret C hw hS xt1 h dX8_selected_9
theorem kX8_selected (l : Launch) (G : GG) (SB S : St) {xv1 : Int32} {x1 : Int} (xt1 : xv1.toInt = x1) {xv2 : Int32} {x2 : Int} (xt2 : xv2.toInt = x2) {k : Int → St → Prop} (h : wX8_selected S x1 x2 k) : CnI l yX8_selected cX8_selected 7 (some .int) 7 161 G (injR SB) [.ref (G.2.2 1042), .int xv1, .int xv2] S k :=
  cn_body (by decide +kernel) (Nat.le_of_ble_eq_true rfl) (fun p e s m args below meth c ls C hw hl => uX8_selected_0 C hw va_S.rf xt1 xt2 (lv_sub hl [0, 1, 2] rfl) h)
set_option maxHeartbeats 4000000 in
set_option maxRecDepth 10000 in
theorem uX8_runOf_20_b {p : Program} {l : Launch} {e : Env} {s : State} {m : MethodId} {args : Array Value} {below : List Frame} {meth : Method} {c : Code} {G : GG} {SB : St} (C : Cx p s m args meth c G RX8 cX8_runOf 5 (some .int)) {S : St} {H : Heap} {locs : List Loc} {ls : Array Slot}  {P20 : Int → St → Prop} {k : Int → St → Prop} (hw : Wd G ((injR SB) S) H) (hS : va_S (AG G) s.heap H locs) {xv2 : Int32} {x2 : Int} (xt2 : xv2.toInt = x2) {xv4 : Int32} {x4 : Int} (xt4 : xv4.toInt = x4) (hl : lv_has ls 5 [(0, .ref (G.2.2 1042)), (2, .int xv2), (4, .int xv4)])  (hP20 : ∀ {H : Heap} {locs : List Loc} {ls : Array Slot} {Sy : St} {yv4 : Int32} {y4 : Int}, yv4.toInt = y4 → Wd G ((injR SB) Sy) H → va_S (AG G) s.heap H locs → lv_has ls 5 [(0, .ref (G.2.2 1042)), (2, .int xv2), (4, .int yv4)] → P20 y4 Sy → W p l e (rmF 8 187) s m args below meth c H locs 0 0 (MQ below (QcI G (injR SB) k) args s 0 0 (AG G)) (F0 m 20 ls [])) (h : wX8_runOf_20_b S x2 x4 P20 k) : W p l e (rmF 8 187) s m args below meth c H locs 0 0 (MQ below (QcI G (injR SB) k) args s 0 0 (AG G)) (F0 m 20 ls []) := by
  refine lv_iload C.1.1 C.1.2.1 dX8_runOf_20 (lv_at hl 2 rfl) ?_
  refine y_sipush C dX8_runOf_22 ⟨by decide, by decide⟩ (fun v1 t1 => ?_)
  refine y_icmp_lt C xt4 t1 dX8_runOf_25 (tgt := 66) (by decide) (fun c2 => ?_) (fun c2 => ?_)
  · have h := h.1 c2
    refine lv_iload C.1.1 C.1.2.1 dX8_runOf_66 (lv_at hl 2 rfl) ?_
    exact y_iret C hw hS xt4 h dX8_runOf_68
  · have h := h.2 c2
    refine lv_aload_n C.1.1 C.1.2.1 dX8_runOf_28 rfl (lv_at hl 0 rfl) ?_
    refine y_getI C fl_X8_428 hw (ocr SB) rfl dX8_runOf_29 (fun v3 t3 => ?_)
    refine y_bipush C dX8_runOf_32 ⟨by decide, by decide⟩ (fun v4 t4 => ?_)
    refine y_icmp_ne C t3 t4 dX8_runOf_34 (tgt := 40) (by decide) (fun c5 => ?_) (fun c5 => ?_)
    · have h := h.1 c5
      refine lv_aload_n C.1.1 C.1.2.1 dX8_runOf_40 rfl (lv_at hl 0 rfl) ?_
      refine lv_dup C.1.1 C.1.2.1 dX8_runOf_41 rfl ?_
      refine y_getI C fl_X8_428 hw (ocr SB) rfl dX8_runOf_42 (fun v6 t6 => ?_)
      refine y_iconst C dX8_runOf_45 ⟨by decide, by decide⟩ (fun v7 t7 => ?_)
      refine y_iadd C t6 t7 dX8_runOf_46 (fun v8 t8 => ?_)
      obtain ⟨S_9, e9⟩ : ∃ z : St, z = up S 0 58 (w32 (S 0 58 + 1)) := ⟨_, rfl⟩
      have h := h S_9 e9
      refine y_putI C fl_X8_428 fp_8_58 hw hS (ocr SB) rfl t8 dX8_runOf_47 (fun H locs hw hS => ?_)
      have hw : Wd G ((injR SB) S_9) H := by rw [e9]; exact hw
      refine lv_aload_n C.1.1 C.1.2.1 dX8_runOf_50 rfl (lv_at hl 0 rfl) ?_
      refine lv_aload_n C.1.1 C.1.2.1 dX8_runOf_51 rfl (lv_at hl 0 rfl) ?_
      refine lv_iload C.1.1 C.1.2.1 dX8_runOf_52 (lv_at hl 2 rfl) ?_
      refine y_cVIp C (As := [.int xv4]) (rest := [.ref (G.2.2 1042)]) ml_X8_377 (kX8_memberOf l G SB S_9 xt4 h) (ocr SB) (T := TX8) (N := 60) rfl (by decide) ⟨(Nat.le_of_ble_eq_true rfl), (Nat.le_of_ble_eq_true rfl)⟩ hl.1 rfl rfl (Nat.le_of_ble_eq_true rfl) hw hS dX8_runOf_54 (fun v10 x_10 H locs t10 h hw hS => ?_)
      refine lv_iload_n C.1.1 C.1.2.1 dX8_runOf_57 rfl (lv_at hl 1 rfl) ?_
      refine y_cVI C (As := [.int v10, .int xv2]) (rest := []) ml_X8_425 (kX8_selected l G SB S_9 t10 xt2 h) (ocr SB) (T := TX8) (N := 60) rfl (by decide) ⟨(Nat.le_of_ble_eq_true rfl), (Nat.le_of_ble_eq_true rfl)⟩ hl.1 rfl rfl (Nat.le_of_ble_eq_true rfl) hw hS dX8_runOf_58 (fun v11 x_11 S_11 H locs t11 h hw hS => ?_)
      refine lv_istore (lv' := [(4, .int v11), (0, .ref (G.2.2 1042)), (2, .int xv2)]) C.1.1 C.1.2.1 dX8_runOf_61 hl (by decide) rfl (fun ls hl => ?_)
      refine lv_goto (tgt := 20) C.1.1 C.1.2.1 dX8_runOf_63 (by decide) ?_
      exact hP20 t11 hw hS (lv_sub hl [1, 2, 0] rfl) h
    · have h := h.2 c5
      refine y_bipush C dX8_runOf_37 ⟨by decide, by decide⟩ (fun v12 t12 => ?_)
      exact y_iret C hw hS t12 h dX8_runOf_39
set_option maxHeartbeats 4000000 in
set_option maxRecDepth 10000 in
theorem uX8_runOf_20 {p : Program} {l : Launch} {e : Env} {s : State} {m : MethodId} {args : Array Value} {below : List Frame} {meth : Method} {c : Code} {G : GG} {SB : St} (C : Cx p s m args meth c G RX8 cX8_runOf 5 (some .int)) {S : St} {H : Heap} {locs : List Loc} {ls : Array Slot}  {k : Int → St → Prop} (hw : Wd G ((injR SB) S) H) (hS : va_S (AG G) s.heap H locs) {xv2 : Int32} {x2 : Int} (xt2 : xv2.toInt = x2) {xv4 : Int32} {x4 : Int} (xt4 : xv4.toInt = x4) (hl : lv_has ls 5 [(0, .ref (G.2.2 1042)), (2, .int xv2), (4, .int xv4)])  (h : wX8_runOf_20 S x2 x4 k) : W p l e (rmF 8 187) s m args below meth c H locs 0 0 (MQ below (QcI G (injR SB) k) args s 0 0 (AG G)) (F0 m 20 ls []) := by
  have key : ∀ (n : Nat) {H : Heap} {locs : List Loc} {ls : Array Slot} {S : St} {xv4 : Int32} {x4 : Int}, xv4.toInt = x4 → Wd G ((injR SB) S) H → va_S (AG G) s.heap H locs → lv_has ls 5 [(0, .ref (G.2.2 1042)), (2, .int xv2), (4, .int xv4)] → itP (fun (P : Int × St → Prop) (a : Int × St) => wX8_runOf_20_b a.2 x2 a.1 (fun b0 b1 => P (b0, b1)) k) n (x4, S) → W p l e (rmF 8 187) s m args below meth c H locs 0 0 (MQ below (QcI G (injR SB) k) args s 0 0 (AG G)) (F0 m 20 ls []) := by
    intro n
    induction n with
    | zero => intro H locs ls S xv4 x4 xt4 hw hS hl h; exact h.elim
    | succ n ih =>
      intro H locs ls S xv4 x4 xt4 hw hS hl h
      exact uX8_runOf_20_b C hw hS xt2 xt4 hl  (P20 := fun b0 b1 => itP _ n (b0, b1)) (fun q0 hw hS hl h => ih q0 hw hS hl h) h
  obtain ⟨n, hn⟩ := h
  exact key n xt4 hw hS hl hn
set_option maxHeartbeats 4000000 in
set_option maxRecDepth 10000 in
theorem uX8_runOf_0 {p : Program} {l : Launch} {e : Env} {s : State} {m : MethodId} {args : Array Value} {below : List Frame} {meth : Method} {c : Code} {G : GG} {SB : St} (C : Cx p s m args meth c G RX8 cX8_runOf 5 (some .int)) {S : St} {H : Heap} {locs : List Loc} {ls : Array Slot}  {k : Int → St → Prop} (hw : Wd G ((injR SB) S) H) (hS : va_S (AG G) s.heap H locs) {xv1 : Int32} {x1 : Int} (xt1 : xv1.toInt = x1) {xv2 : Int32} {x2 : Int} (xt2 : xv2.toInt = x2) {xv3 : Int32} {x3 : Int} (xt3 : xv3.toInt = x3) (hl : lv_has ls 5 [(0, .ref (G.2.2 1042)), (1, .int xv1), (2, .int xv2), (3, .int xv3)])  (h : wX8_runOf_0 S x1 x2 x3 k) : W p l e (rmF 8 187) s m args below meth c H locs 0 0 (MQ below (QcI G (injR SB) k) args s 0 0 (AG G)) (F0 m 0 ls []) := by
  refine lv_iload_n C.1.1 C.1.2.1 dX8_runOf_0 rfl (lv_at hl 3 rfl) ?_
  refine y_if_eq C xt3 dX8_runOf_1 (tgt := 13) (by decide) (fun c1 => ?_) (fun c1 => ?_)
  · have h := h.1 c1
    refine lv_aload_n C.1.1 C.1.2.1 dX8_runOf_13 rfl (lv_at hl 0 rfl) ?_
    refine lv_iload_n C.1.1 C.1.2.1 dX8_runOf_14 rfl (lv_at hl 1 rfl) ?_
    refine y_cVIp C (As := [.int xv1]) (rest := []) ml_X8_419 (kX8_runs l G SB S xt1 h) (ocr SB) (T := TX8) (N := 60) rfl (by decide) ⟨(Nat.le_of_ble_eq_true rfl), (Nat.le_of_ble_eq_true rfl)⟩ hl.1 rfl rfl (Nat.le_of_ble_eq_true rfl) hw hS dX8_runOf_15 (fun v2 x_2 H locs t2 h hw hS => ?_)
    refine lv_istore (lv' := [(4, .int v2), (0, .ref (G.2.2 1042)), (1, .int xv1), (2, .int xv2), (3, .int xv3)]) C.1.1 C.1.2.1 dX8_runOf_18 hl (by decide) rfl (fun ls hl => ?_)
    exact uX8_runOf_20 C hw hS xt2 t2 (lv_sub hl [1, 3, 0] rfl)  h
  · have h := h.2 c1
    refine lv_aload_n C.1.1 C.1.2.1 dX8_runOf_4 rfl (lv_at hl 0 rfl) ?_
    refine lv_iload_n C.1.1 C.1.2.1 dX8_runOf_5 rfl (lv_at hl 1 rfl) ?_
    refine lv_iload_n C.1.1 C.1.2.1 dX8_runOf_6 rfl (lv_at hl 2 rfl) ?_
    refine y_cVI C (As := [.int xv1, .int xv2]) (rest := []) ml_X8_425 (kX8_selected l G SB S xt1 xt2 h) (ocr SB) (T := TX8) (N := 60) rfl (by decide) ⟨(Nat.le_of_ble_eq_true rfl), (Nat.le_of_ble_eq_true rfl)⟩ hl.1 rfl rfl (Nat.le_of_ble_eq_true rfl) hw hS dX8_runOf_7 (fun v3 x_3 S_3 H locs t3 h hw hS => ?_)
    refine lv_goto (tgt := 18) C.1.1 C.1.2.1 dX8_runOf_10 (by decide) ?_
    refine lv_istore (lv' := [(4, .int v3), (0, .ref (G.2.2 1042)), (1, .int xv1), (2, .int xv2), (3, .int xv3)]) C.1.1 C.1.2.1 dX8_runOf_18 hl (by decide) rfl (fun ls hl => ?_)
    exact uX8_runOf_20 C hw hS xt2 t3 (lv_sub hl [1, 3, 0] rfl)  h
theorem kX8_runOf (l : Launch) (G : GG) (SB S : St) {xv1 : Int32} {x1 : Int} (xt1 : xv1.toInt = x1) {xv2 : Int32} {x2 : Int} (xt2 : xv2.toInt = x2) {xv3 : Int32} {x3 : Int} (xt3 : xv3.toInt = x3) {k : Int → St → Prop} (h : wX8_runOf S x1 x2 x3 k) : CnI l yX8_runOf cX8_runOf 5 (some .int) 8 187 G (injR SB) [.ref (G.2.2 1042), .int xv1, .int xv2, .int xv3] S k :=
  cn_body (by decide +kernel) (Nat.le_of_ble_eq_true rfl) (fun p e s m args below meth c ls C hw hl => uX8_runOf_0 C hw va_S.rf xt1 xt2 xt3 (lv_sub hl [0, 1, 2, 3] rfl) h)
set_option maxHeartbeats 4000000 in
set_option maxRecDepth 10000 in
theorem uX8_isRef_43 {p : Program} {l : Launch} {e : Env} {s : State} {m : MethodId} {args : Array Value} {below : List Frame} {meth : Method} {c : Code} {G : GG} {SB : St} (C : Cx p s m args meth c G RX8 cX8_isRef 5 (some .boolean)) {S : St} {H : Heap} {locs : List Loc} {ls : Array Slot} {P5 : Int → Int → Prop} {k : Int → Prop} (hw : Wd G ((injR SB) S) H) (hS : va_S (AG G) s.heap H locs) {xv1 : Int32} {x1 : Int} (xt1 : xv1.toInt = x1) {xv2 : Int32} {x2 : Int} (xt2 : xv2.toInt = x2) {xv4 : Int32} {x4 : Int} (xt4 : xv4.toInt = x4) (hl : lv_has ls 5 [(0, .ref (G.2.2 1042)), (1, .int xv1), (2, .int xv2), (4, .int xv4)]) (hP5 : ∀ {H : Heap} {locs : List Loc} {ls : Array Slot} {yv3 : Int32} {y3 : Int} {yv4 : Int32} {y4 : Int}, yv3.toInt = y3 → yv4.toInt = y4 → Wd G ((injR SB) S) H → va_S (AG G) s.heap H locs → lv_has ls 5 [(0, .ref (G.2.2 1042)), (1, .int xv1), (2, .int xv2), (3, .int yv3), (4, .int yv4)] → P5 y3 y4 → W p l e (rmF 1 21) s m args below meth c H locs 0 0 (MQ below (QcI G (injR SB) (fun r u => k r ∧ u = S)) args s 0 0 (AG G)) (F0 m 5 ls [])) (h : wX8_isRef_43 S x1 x2 x4 P5 k) : W p l e (rmF 1 21) s m args below meth c H locs 0 0 (MQ below (QcI G (injR SB) (fun r u => k r ∧ u = S)) args s 0 0 (AG G)) (F0 m 43 ls []) := by
  refine y_iconst C dX8_isRef_43 ⟨by decide, by decide⟩ (fun v1 t1 => ?_)
  refine lv_goto (tgt := 48) C.1.1 C.1.2.1 dX8_isRef_44 (by decide) ?_
  refine lv_istore_n (lv' := [(3, .int v1), (0, .ref (G.2.2 1042)), (1, .int xv1), (2, .int xv2), (4, .int xv4)]) C.1.1 C.1.2.1 dX8_isRef_48 rfl hl (by decide) rfl (fun ls hl => ?_)
  obtain ⟨x_2, e2⟩ : ∃ z : Int, z = w32 (x4 + 1) := ⟨_, rfl⟩
  have h := h x_2 e2
  obtain ⟨v2, t2, g2⟩ : ∃ z : Int32, z.toInt = x_2 ∧ xv4 + Int32.ofInt 1 = z := ⟨_, (ti_inc xt4 ⟨by decide, by decide⟩).trans e2.symm, rfl⟩
  refine lv_iinc (v := v2) (lv' := [(4, .int v2), (3, .int v1), (0, .ref (G.2.2 1042)), (1, .int xv1), (2, .int xv2)]) C.1.1 C.1.2.1 dX8_isRef_49 hl (k := 4) rfl g2 (by decide) rfl (fun ls hl => ?_)
  refine lv_goto (tgt := 5) C.1.1 C.1.2.1 dX8_isRef_52 (by decide) ?_
  exact hP5 t1 t2 hw hS (lv_sub hl [2, 3, 4, 1, 0] rfl) h
set_option maxHeartbeats 4000000 in
set_option maxRecDepth 10000 in
theorem uX8_isRef_5_b {p : Program} {l : Launch} {e : Env} {s : State} {m : MethodId} {args : Array Value} {below : List Frame} {meth : Method} {c : Code} {G : GG} {SB : St} (C : Cx p s m args meth c G RX8 cX8_isRef 5 (some .boolean)) {S : St} {H : Heap} {locs : List Loc} {ls : Array Slot}  {P5 : Int → Int → Prop} {k : Int → Prop} (hw : Wd G ((injR SB) S) H) (hS : va_S (AG G) s.heap H locs) {xv1 : Int32} {x1 : Int} (xt1 : xv1.toInt = x1) {xv2 : Int32} {x2 : Int} (xt2 : xv2.toInt = x2) {xv3 : Int32} {x3 : Int} (xt3 : xv3.toInt = x3) {xv4 : Int32} {x4 : Int} (xt4 : xv4.toInt = x4) (hl : lv_has ls 5 [(0, .ref (G.2.2 1042)), (1, .int xv1), (2, .int xv2), (3, .int xv3), (4, .int xv4)])  (hP5 : ∀ {H : Heap} {locs : List Loc} {ls : Array Slot} {yv3 : Int32} {y3 : Int} {yv4 : Int32} {y4 : Int}, yv3.toInt = y3 → yv4.toInt = y4 → Wd G ((injR SB) S) H → va_S (AG G) s.heap H locs → lv_has ls 5 [(0, .ref (G.2.2 1042)), (1, .int xv1), (2, .int xv2), (3, .int yv3), (4, .int yv4)] → P5 y3 y4 → W p l e (rmF 1 21) s m args below meth c H locs 0 0 (MQ below (QcI G (injR SB) (fun r u => k r ∧ u = S)) args s 0 0 (AG G)) (F0 m 5 ls [])) (h : wX8_isRef_5_b S x1 x2 x3 x4 P5 k) : W p l e (rmF 1 21) s m args below meth c H locs 0 0 (MQ below (QcI G (injR SB) (fun r u => k r ∧ u = S)) args s 0 0 (AG G)) (F0 m 5 ls []) := by
  refine lv_iload C.1.1 C.1.2.1 dX8_isRef_5 (lv_at hl 4 rfl) ?_
  refine lv_aload_n C.1.1 C.1.2.1 dX8_isRef_7 rfl (lv_at hl 0 rfl) ?_
  refine y_getA C fl_X8_85 hw (ocr SB) rfl (o := 16) rfl dX8_isRef_8 ?_
  refine lv_aload_n C.1.1 C.1.2.1 dX8_isRef_11 rfl (lv_at hl 0 rfl) ?_
  refine lv_iload_n C.1.1 C.1.2.1 dX8_isRef_12 rfl (lv_at hl 1 rfl) ?_
  refine y_cVIp C (As := [.int xv1]) (rest := [.ref (G.2.2 (1058)), .int xv4]) ml_X8_214 (kX8_t l G SB S xt1 h) (ocr SB) (T := TX8) (N := 60) rfl (by decide) ⟨(Nat.le_of_ble_eq_true rfl), (Nat.le_of_ble_eq_true rfl)⟩ hl.1 rfl rfl (Nat.le_of_ble_eq_true rfl) hw hS dX8_isRef_13 (fun v2 x_2 H locs t2 h hw hS => ?_)
  obtain ⟨b3, h⟩ := h
  refine y_iald C hw (acr_25 SB) t2 b3 dX8_isRef_16 (fun v3 t3 => ?_)
  refine y_icmp_ge C xt4 t3 dX8_isRef_17 (tgt := 55) (by decide) (fun c4 => ?_) (fun c4 => ?_)
  · have h := h.1 c4
    refine lv_iload_n C.1.1 C.1.2.1 dX8_isRef_55 rfl (lv_at hl 3 rfl) ?_
    obtain ⟨z, h⟩ := h
    exact y_zret C hw hS xt3 z ⟨h, rfl⟩ dX8_isRef_56
  · have h := h.2 c4
    refine lv_iload_n C.1.1 C.1.2.1 dX8_isRef_20 rfl (lv_at hl 3 rfl) ?_
    refine y_if_ne C xt3 dX8_isRef_21 (tgt := 43) (by decide) (fun c5 => ?_) (fun c5 => ?_)
    · have h := h.1 c5
      exact uX8_isRef_43 C hw hS xt1 xt2 xt4 (lv_sub hl [0, 1, 2, 4] rfl) hP5 h
    · have h := h.2 c5
      refine lv_aload_n C.1.1 C.1.2.1 dX8_isRef_24 rfl (lv_at hl 0 rfl) ?_
      refine y_getA C fl_X8_88 hw (ocr SB) rfl (o := 17) rfl dX8_isRef_25 ?_
      refine y_iconst C dX8_isRef_28 ⟨by decide, by decide⟩ (fun v7 t7 => ?_)
      refine lv_aload_n C.1.1 C.1.2.1 dX8_isRef_29 rfl (lv_at hl 0 rfl) ?_
      refine lv_iload_n C.1.1 C.1.2.1 dX8_isRef_30 rfl (lv_at hl 1 rfl) ?_
      refine y_cVIp C (As := [.int xv1]) (rest := [.int v7, .ref (G.2.2 (1059))]) ml_X8_214 (kX8_t l G SB S xt1 h) (ocr SB) (T := TX8) (N := 60) rfl (by decide) ⟨(Nat.le_of_ble_eq_true rfl), (Nat.le_of_ble_eq_true rfl)⟩ hl.1 rfl rfl (Nat.le_of_ble_eq_true rfl) hw hS dX8_isRef_31 (fun v8 x_8 H locs t8 h hw hS => ?_)
      refine y_imul C t7 t8 dX8_isRef_34 (fun v9 t9 => ?_)
      refine lv_iload C.1.1 C.1.2.1 dX8_isRef_35 (lv_at hl 4 rfl) ?_
      refine y_iadd C t9 xt4 dX8_isRef_37 (fun v10 t10 => ?_)
      obtain ⟨b11, h⟩ := h
      refine y_iald C hw (acr_26 SB) t10 b11 dX8_isRef_38 (fun v11 t11 => ?_)
      refine lv_iload_n C.1.1 C.1.2.1 dX8_isRef_39 rfl (lv_at hl 2 rfl) ?_
      refine y_icmp_ne C t11 xt2 dX8_isRef_40 (tgt := 47) (by decide) (fun c12 => ?_) (fun c12 => ?_)
      · have h := h.1 c12
        refine y_iconst C dX8_isRef_47 ⟨by decide, by decide⟩ (fun v13 t13 => ?_)
        refine lv_istore_n (lv' := [(3, .int v13), (0, .ref (G.2.2 1042)), (1, .int xv1), (2, .int xv2), (4, .int xv4)]) C.1.1 C.1.2.1 dX8_isRef_48 rfl hl (by decide) rfl (fun ls hl => ?_)
        obtain ⟨x_14, e14⟩ : ∃ z : Int, z = w32 (x4 + 1) := ⟨_, rfl⟩
        have h := h x_14 e14
        obtain ⟨v14, t14, g14⟩ : ∃ z : Int32, z.toInt = x_14 ∧ xv4 + Int32.ofInt 1 = z := ⟨_, (ti_inc xt4 ⟨by decide, by decide⟩).trans e14.symm, rfl⟩
        refine lv_iinc (v := v14) (lv' := [(4, .int v14), (3, .int v13), (0, .ref (G.2.2 1042)), (1, .int xv1), (2, .int xv2)]) C.1.1 C.1.2.1 dX8_isRef_49 hl (k := 4) rfl g14 (by decide) rfl (fun ls hl => ?_)
        refine lv_goto (tgt := 5) C.1.1 C.1.2.1 dX8_isRef_52 (by decide) ?_
        exact hP5 t13 t14 hw hS (lv_sub hl [2, 3, 4, 1, 0] rfl) h
      · have h := h.2 c12
        exact uX8_isRef_43 C hw hS xt1 xt2 xt4 (lv_sub hl [0, 1, 2, 4] rfl) hP5 h
set_option maxHeartbeats 4000000 in
set_option maxRecDepth 10000 in
theorem uX8_isRef_5 {p : Program} {l : Launch} {e : Env} {s : State} {m : MethodId} {args : Array Value} {below : List Frame} {meth : Method} {c : Code} {G : GG} {SB : St} (C : Cx p s m args meth c G RX8 cX8_isRef 5 (some .boolean)) {S : St} {H : Heap} {locs : List Loc} {ls : Array Slot}  {k : Int → Prop} (hw : Wd G ((injR SB) S) H) (hS : va_S (AG G) s.heap H locs) {xv1 : Int32} {x1 : Int} (xt1 : xv1.toInt = x1) {xv2 : Int32} {x2 : Int} (xt2 : xv2.toInt = x2) {xv3 : Int32} {x3 : Int} (xt3 : xv3.toInt = x3) {xv4 : Int32} {x4 : Int} (xt4 : xv4.toInt = x4) (hl : lv_has ls 5 [(0, .ref (G.2.2 1042)), (1, .int xv1), (2, .int xv2), (3, .int xv3), (4, .int xv4)])  (h : wX8_isRef_5 S x1 x2 x3 x4 k) : W p l e (rmF 1 21) s m args below meth c H locs 0 0 (MQ below (QcI G (injR SB) (fun r u => k r ∧ u = S)) args s 0 0 (AG G)) (F0 m 5 ls []) := by
  have key : ∀ (n : Nat) {H : Heap} {locs : List Loc} {ls : Array Slot} {xv3 : Int32} {x3 : Int} {xv4 : Int32} {x4 : Int}, xv3.toInt = x3 → xv4.toInt = x4 → Wd G ((injR SB) S) H → va_S (AG G) s.heap H locs → lv_has ls 5 [(0, .ref (G.2.2 1042)), (1, .int xv1), (2, .int xv2), (3, .int xv3), (4, .int xv4)] → itP (fun (P : Int × Int → Prop) (a : Int × Int) => wX8_isRef_5_b S x1 x2 a.1 a.2 (fun b0 b1 => P (b0, b1)) k) n (x3, x4) → W p l e (rmF 1 21) s m args below meth c H locs 0 0 (MQ below (QcI G (injR SB) (fun r u => k r ∧ u = S)) args s 0 0 (AG G)) (F0 m 5 ls []) := by
    intro n
    induction n with
    | zero => intro H locs ls xv3 x3 xv4 x4 xt3 xt4 hw hS hl h; exact h.elim
    | succ n ih =>
      intro H locs ls xv3 x3 xv4 x4 xt3 xt4 hw hS hl h
      exact uX8_isRef_5_b C hw hS xt1 xt2 xt3 xt4 hl  (P5 := fun b0 b1 => itP _ n (b0, b1)) (fun q0 q1 hw hS hl h => ih q0 q1 hw hS hl h) h
  obtain ⟨n, hn⟩ := h
  exact key n xt3 xt4 hw hS hl hn
set_option maxHeartbeats 4000000 in
set_option maxRecDepth 10000 in
theorem uX8_isRef_0 {p : Program} {l : Launch} {e : Env} {s : State} {m : MethodId} {args : Array Value} {below : List Frame} {meth : Method} {c : Code} {G : GG} {SB : St} (C : Cx p s m args meth c G RX8 cX8_isRef 5 (some .boolean)) {S : St} {H : Heap} {locs : List Loc} {ls : Array Slot}  {k : Int → Prop} (hw : Wd G ((injR SB) S) H) (hS : va_S (AG G) s.heap H locs) {xv1 : Int32} {x1 : Int} (xt1 : xv1.toInt = x1) {xv2 : Int32} {x2 : Int} (xt2 : xv2.toInt = x2) (hl : lv_has ls 5 [(0, .ref (G.2.2 1042)), (1, .int xv1), (2, .int xv2)])  (h : wX8_isRef_0 S x1 x2 k) : W p l e (rmF 1 21) s m args below meth c H locs 0 0 (MQ below (QcI G (injR SB) (fun r u => k r ∧ u = S)) args s 0 0 (AG G)) (F0 m 0 ls []) := by
  refine y_iconst C dX8_isRef_0 ⟨by decide, by decide⟩ (fun v1 t1 => ?_)
  refine lv_istore_n (lv' := [(3, .int v1), (0, .ref (G.2.2 1042)), (1, .int xv1), (2, .int xv2)]) C.1.1 C.1.2.1 dX8_isRef_1 rfl hl (by decide) rfl (fun ls hl => ?_)
  refine y_iconst C dX8_isRef_2 ⟨by decide, by decide⟩ (fun v2 t2 => ?_)
  refine lv_istore (lv' := [(4, .int v2), (3, .int v1), (0, .ref (G.2.2 1042)), (1, .int xv1), (2, .int xv2)]) C.1.1 C.1.2.1 dX8_isRef_3 hl (by decide) rfl (fun ls hl => ?_)
  exact uX8_isRef_5 C hw hS xt1 xt2 t1 t2 (lv_sub hl [2, 3, 4, 1, 0] rfl)  h
theorem kX8_isRef (l : Launch) (G : GG) (SB S : St) {xv1 : Int32} {x1 : Int} (xt1 : xv1.toInt = x1) {xv2 : Int32} {x2 : Int} (xt2 : xv2.toInt = x2) {k : Int → Prop} (h : wX8_isRef S x1 x2 k) : CnI l yX8_isRef cX8_isRef 5 (some .boolean) 1 21 G (injR SB) [.ref (G.2.2 1042), .int xv1, .int xv2] S (fun r u => k r ∧ u = S) :=
  cn_body (by decide +kernel) (Nat.le_of_ble_eq_true rfl) (fun p e s m args below meth c ls C hw hl => uX8_isRef_0 C hw va_S.rf xt1 xt2 (lv_sub hl [0, 1, 2] rfl) h)
set_option maxHeartbeats 4000000 in
set_option maxRecDepth 10000 in
theorem uX8_ruled_280 {p : Program} {l : Launch} {e : Env} {s : State} {m : MethodId} {args : Array Value} {below : List Frame} {meth : Method} {c : Code} {G : GG} {SB : St} (C : Cx p s m args meth c G RX8 cX8_ruled 10 (some .int)) {S : St} {H : Heap} {locs : List Loc} {ls : Array Slot}  {k : Int → St → Prop} (hw : Wd G ((injR SB) S) H) (hS : va_S (AG G) s.heap H locs) {sv1 : Int32} {s1 : Int} (st1 : sv1.toInt = s1) {sv2 : Int32} {s2 : Int} (st2 : sv2.toInt = s2) {sv3 : Int32} {s3 : Int} (st3 : sv3.toInt = s3) (hl : lv_has ls 10 [])  (h : wX8_ruled_280 S s1 s2 s3 k) : W p l e (rmF 9 211) s m args below meth c H locs 0 0 (MQ below (QcI G (injR SB) k) args s 0 0 (AG G)) (F0 m 280 ls [.int sv3, .int sv2, .int sv1, .ref (G.2.2 1042)]) := by
  refine y_cVI C (As := [.int sv1, .int sv2, .int sv3]) (rest := []) ml_X8_440 (kX8_runOf l G SB S st1 st2 st3 h) (ocr SB) (T := TX8) (N := 60) rfl (by decide) ⟨(Nat.le_of_ble_eq_true rfl), (Nat.le_of_ble_eq_true rfl)⟩ hl.1 rfl rfl (Nat.le_of_ble_eq_true rfl) hw hS dX8_ruled_280 (fun v1 x_1 S_1 H locs t1 h hw hS => ?_)
  exact y_iret C hw hS t1 h dX8_ruled_283
set_option maxHeartbeats 4000000 in
set_option maxRecDepth 10000 in
theorem uX8_ruled_265 {p : Program} {l : Launch} {e : Env} {s : State} {m : MethodId} {args : Array Value} {below : List Frame} {meth : Method} {c : Code} {G : GG} {SB : St} (C : Cx p s m args meth c G RX8 cX8_ruled 10 (some .int)) {S : St} {H : Heap} {locs : List Loc} {ls : Array Slot}  {k : Int → St → Prop} (hw : Wd G ((injR SB) S) H) (hS : va_S (AG G) s.heap H locs) {xv1 : Int32} {x1 : Int} (xt1 : xv1.toInt = x1) {xv5 : Int32} {x5 : Int} (xt5 : xv5.toInt = x5) {xv8 : Int32} {x8 : Int} (xt8 : xv8.toInt = x8) (hl : lv_has ls 10 [(0, .ref (G.2.2 1042)), (1, .int xv1), (5, .int xv5), (8, .int xv8)])  (h : wX8_ruled_265 S x1 x5 x8 k) : W p l e (rmF 9 211) s m args below meth c H locs 0 0 (MQ below (QcI G (injR SB) k) args s 0 0 (AG G)) (F0 m 265 ls []) := by
  refine lv_aload_n C.1.1 C.1.2.1 dX8_ruled_265 rfl (lv_at hl 0 rfl) ?_
  refine lv_iload C.1.1 C.1.2.1 dX8_ruled_266 (lv_at hl 3 rfl) ?_
  refine lv_iload C.1.1 C.1.2.1 dX8_ruled_268 (lv_at hl 2 rfl) ?_
  refine lv_iload_n C.1.1 C.1.2.1 dX8_ruled_270 rfl (lv_at hl 1 rfl) ?_
  refine y_iconst C dX8_ruled_271 ⟨by decide, by decide⟩ (fun v1 t1 => ?_)
  refine y_icmp_ge C xt1 t1 dX8_ruled_272 (tgt := 279) (by decide) (fun c2 => ?_) (fun c2 => ?_)
  · have h := h.1 c2
    refine y_iconst C dX8_ruled_279 ⟨by decide, by decide⟩ (fun v3 t3 => ?_)
    exact uX8_ruled_280 C hw hS xt8 xt5 t3 (lv_sub hl [] rfl)  h
  · have h := h.2 c2
    refine y_iconst C dX8_ruled_275 ⟨by decide, by decide⟩ (fun v4 t4 => ?_)
    refine lv_goto (tgt := 280) C.1.1 C.1.2.1 dX8_ruled_276 (by decide) ?_
    exact uX8_ruled_280 C hw hS xt8 xt5 t4 (lv_sub hl [] rfl)  h
set_option maxHeartbeats 4000000 in
set_option maxRecDepth 10000 in
theorem uX8_ruled_241 {p : Program} {l : Launch} {e : Env} {s : State} {m : MethodId} {args : Array Value} {below : List Frame} {meth : Method} {c : Code} {G : GG} {SB : St} (C : Cx p s m args meth c G RX8 cX8_ruled 10 (some .int)) {S : St} {H : Heap} {locs : List Loc} {ls : Array Slot}  {k : Int → St → Prop} (hw : Wd G ((injR SB) S) H) (hS : va_S (AG G) s.heap H locs) {xv1 : Int32} {x1 : Int} (xt1 : xv1.toInt = x1) {xv5 : Int32} {x5 : Int} (xt5 : xv5.toInt = x5) {xv8 : Int32} {x8 : Int} (xt8 : xv8.toInt = x8) {sv0 : Int32} {s0 : Int} (st0 : sv0.toInt = s0) (hl : lv_has ls 10 [(0, .ref (G.2.2 1042)), (1, .int xv1), (5, .int xv5), (8, .int xv8)])  (h : wX8_ruled_241 S x1 x5 x8 s0 k) : W p l e (rmF 9 211) s m args below meth c H locs 0 0 (MQ below (QcI G (injR SB) k) args s 0 0 (AG G)) (F0 m 241 ls [.int sv0]) := by
  refine lv_istore (lv' := [(9, .int sv0), (0, .ref (G.2.2 1042)), (1, .int xv1), (5, .int xv5), (8, .int xv8)]) C.1.1 C.1.2.1 dX8_ruled_241 hl (by decide) rfl (fun ls hl => ?_)
  refine lv_aload_n C.1.1 C.1.2.1 dX8_ruled_243 rfl (lv_at hl 1 rfl) ?_
  refine y_getA C fl_X8_70 hw (ocr SB) rfl (o := 11) rfl dX8_ruled_244 ?_
  refine lv_aload_n C.1.1 C.1.2.1 dX8_ruled_247 rfl (lv_at hl 1 rfl) ?_
  refine lv_iload C.1.1 C.1.2.1 dX8_ruled_248 (lv_at hl 3 rfl) ?_
  refine y_cVIp C (As := [.int xv5]) (rest := [.ref (G.2.2 (1053))]) ml_X8_214 (kX8_t l G SB S xt5 h) (ocr SB) (T := TX8) (N := 60) rfl (by decide) ⟨(Nat.le_of_ble_eq_true rfl), (Nat.le_of_ble_eq_true rfl)⟩ hl.1 rfl rfl (Nat.le_of_ble_eq_true rfl) hw hS dX8_ruled_250 (fun v2 x_2 H locs t2 h hw hS => ?_)
  obtain ⟨b3, h⟩ := h
  refine y_iald C hw (acr_20 SB) t2 b3 dX8_ruled_253 (fun v3 t3 => ?_)
  refine y_if_ne C t3 dX8_ruled_254 (tgt := 262) (by decide) (fun c4 => ?_) (fun c4 => ?_)
  · have h := h.1 c4
    refine y_bipush C dX8_ruled_262 ⟨by decide, by decide⟩ (fun v5 t5 => ?_)
    exact y_iret C hw hS t5 h dX8_ruled_264
  · have h := h.2 c4
    refine lv_iload C.1.1 C.1.2.1 dX8_ruled_257 (lv_at hl 0 rfl) ?_
    refine y_if_ne C st0 dX8_ruled_259 (tgt := 265) (by decide) (fun c6 => ?_) (fun c6 => ?_)
    · have h := h.1 c6
      exact uX8_ruled_265 C hw hS xt1 xt5 xt8 (lv_sub hl [1, 2, 3, 4] rfl)  h
    · have h := h.2 c6
      refine y_bipush C dX8_ruled_262 ⟨by decide, by decide⟩ (fun v7 t7 => ?_)
      exact y_iret C hw hS t7 h dX8_ruled_264
set_option maxHeartbeats 4000000 in
set_option maxRecDepth 10000 in
theorem uX8_ruled_230 {p : Program} {l : Launch} {e : Env} {s : State} {m : MethodId} {args : Array Value} {below : List Frame} {meth : Method} {c : Code} {G : GG} {SB : St} (C : Cx p s m args meth c G RX8 cX8_ruled 10 (some .int)) {S : St} {H : Heap} {locs : List Loc} {ls : Array Slot}  {k : Int → St → Prop} (hw : Wd G ((injR SB) S) H) (hS : va_S (AG G) s.heap H locs) {xv1 : Int32} {x1 : Int} (xt1 : xv1.toInt = x1) {xv5 : Int32} {x5 : Int} (xt5 : xv5.toInt = x5) {xv8 : Int32} {x8 : Int} (xt8 : xv8.toInt = x8) (hl : lv_has ls 10 [(0, .ref (G.2.2 1042)), (1, .int xv1), (5, .int xv5), (8, .int xv8)])  (h : wX8_ruled_230 S x1 x5 x8 k) : W p l e (rmF 9 211) s m args below meth c H locs 0 0 (MQ below (QcI G (injR SB) k) args s 0 0 (AG G)) (F0 m 230 ls []) := by
  refine y_iconst C dX8_ruled_230 ⟨by decide, by decide⟩ (fun v1 t1 => ?_)
  refine lv_goto (tgt := 241) C.1.1 C.1.2.1 dX8_ruled_231 (by decide) ?_
  exact uX8_ruled_241 C hw hS xt1 xt5 xt8 t1 (lv_sub hl [0, 1, 2, 3] rfl)  h
set_option maxHeartbeats 4000000 in
set_option maxRecDepth 10000 in
theorem uX8_ruled_186 {p : Program} {l : Launch} {e : Env} {s : State} {m : MethodId} {args : Array Value} {below : List Frame} {meth : Method} {c : Code} {G : GG} {SB : St} (C : Cx p s m args meth c G RX8 cX8_ruled 10 (some .int)) {S : St} {H : Heap} {locs : List Loc} {ls : Array Slot}  {k : Int → St → Prop} (hw : Wd G ((injR SB) S) H) (hS : va_S (AG G) s.heap H locs) {xv1 : Int32} {x1 : Int} (xt1 : xv1.toInt = x1) {xv2 : Int32} {x2 : Int} (xt2 : xv2.toInt = x2) {xv3 : Int32} {x3 : Int} (xt3 : xv3.toInt = x3) {xv5 : Int32} {x5 : Int} (xt5 : xv5.toInt = x5) {xv8 : Int32} {x8 : Int} (xt8 : xv8.toInt = x8) {sv0 : Int32} {s0 : Int} (st0 : sv0.toInt = s0) {sv1 : Int32} {s1 : Int} (st1 : sv1.toInt = s1) (hl : lv_has ls 10 [(0, .ref (G.2.2 1042)), (1, .int xv1), (2, .int xv2), (3, .int xv3), (5, .int xv5), (8, .int xv8)])  (h : wX8_ruled_186 S x1 x2 x3 x5 x8 s0 s1 k) : W p l e (rmF 9 211) s m args below meth c H locs 0 0 (MQ below (QcI G (injR SB) k) args s 0 0 (AG G)) (F0 m 186 ls [.int sv1, .int sv0]) := by
  refine y_icmp_eq C st0 st1 dX8_ruled_186 (tgt := 192) (by decide) (fun c1 => ?_) (fun c1 => ?_)
  · have h := h.1 c1
    refine lv_iload_n C.1.1 C.1.2.1 dX8_ruled_192 rfl (lv_at hl 1 rfl) ?_
    refine y_iconst C dX8_ruled_193 ⟨by decide, by decide⟩ (fun v2 t2 => ?_)
    refine y_icmp_eq C xt1 t2 dX8_ruled_194 (tgt := 265) (by decide) (fun c3 => ?_) (fun c3 => ?_)
    · have h := h.1 c3
      exact uX8_ruled_265 C hw hS xt1 xt5 xt8 (lv_sub hl [0, 1, 4, 5] rfl)  h
    · have h := h.2 c3
      refine lv_iload_n C.1.1 C.1.2.1 dX8_ruled_197 rfl (lv_at hl 1 rfl) ?_
      refine y_iconst C dX8_ruled_198 ⟨by decide, by decide⟩ (fun v4 t4 => ?_)
      refine y_icmp_ne C xt1 t4 dX8_ruled_199 (tgt := 234) (by decide) (fun c5 => ?_) (fun c5 => ?_)
      · have h := h.1 c5
        refine lv_aload_n C.1.1 C.1.2.1 dX8_ruled_234 rfl (lv_at hl 0 rfl) ?_
        refine lv_iload C.1.1 C.1.2.1 dX8_ruled_235 (lv_at hl 4 rfl) ?_
        refine lv_iload_n C.1.1 C.1.2.1 dX8_ruled_237 rfl (lv_at hl 3 rfl) ?_
        refine y_cVIp C (As := [.int xv5, .int xv3]) (rest := []) ml_X8_335 (kX8_isUnder l G SB S xt5 xt3 h) (ocr SB) (T := TX8) (N := 60) rfl (by decide) ⟨(Nat.le_of_ble_eq_true rfl), (Nat.le_of_ble_eq_true rfl)⟩ hl.1 rfl rfl (Nat.le_of_ble_eq_true rfl) hw hS dX8_ruled_238 (fun v6 x_6 H locs t6 h hw hS => ?_)
        exact uX8_ruled_241 C hw hS xt1 xt5 xt8 t6 (lv_sub hl [0, 1, 4, 5] rfl)  h
      · have h := h.2 c5
        refine lv_aload_n C.1.1 C.1.2.1 dX8_ruled_202 rfl (lv_at hl 0 rfl) ?_
        refine lv_iload C.1.1 C.1.2.1 dX8_ruled_203 (lv_at hl 4 rfl) ?_
        refine lv_iload_n C.1.1 C.1.2.1 dX8_ruled_205 rfl (lv_at hl 2 rfl) ?_
        refine y_cVIp C (As := [.int xv5, .int xv2]) (rest := []) ml_X8_335 (kX8_isUnder l G SB S xt5 xt2 h) (ocr SB) (T := TX8) (N := 60) rfl (by decide) ⟨(Nat.le_of_ble_eq_true rfl), (Nat.le_of_ble_eq_true rfl)⟩ hl.1 rfl rfl (Nat.le_of_ble_eq_true rfl) hw hS dX8_ruled_206 (fun v7 x_7 H locs t7 h hw hS => ?_)
        refine y_if_eq C t7 dX8_ruled_209 (tgt := 230) (by decide) (fun c8 => ?_) (fun c8 => ?_)
        · have h := h.1 c8
          exact uX8_ruled_230 C hw hS xt1 xt5 xt8 (lv_sub hl [0, 1, 4, 5] rfl)  h
        · have h := h.2 c8
          refine lv_iload_n C.1.1 C.1.2.1 dX8_ruled_212 rfl (lv_at hl 2 rfl) ?_
          refine lv_iload_n C.1.1 C.1.2.1 dX8_ruled_213 rfl (lv_at hl 3 rfl) ?_
          refine y_icmp_eq C xt2 xt3 dX8_ruled_214 (tgt := 230) (by decide) (fun c9 => ?_) (fun c9 => ?_)
          · have h := h.1 c9
            exact uX8_ruled_230 C hw hS xt1 xt5 xt8 (lv_sub hl [0, 1, 4, 5] rfl)  h
          · have h := h.2 c9
            refine lv_aload_n C.1.1 C.1.2.1 dX8_ruled_217 rfl (lv_at hl 0 rfl) ?_
            refine lv_iload_n C.1.1 C.1.2.1 dX8_ruled_218 rfl (lv_at hl 2 rfl) ?_
            refine lv_iload_n C.1.1 C.1.2.1 dX8_ruled_219 rfl (lv_at hl 3 rfl) ?_
            refine y_cVIp C (As := [.int xv2, .int xv3]) (rest := []) ml_X8_335 (kX8_isUnder l G SB S xt2 xt3 h) (ocr SB) (T := TX8) (N := 60) rfl (by decide) ⟨(Nat.le_of_ble_eq_true rfl), (Nat.le_of_ble_eq_true rfl)⟩ hl.1 rfl rfl (Nat.le_of_ble_eq_true rfl) hw hS dX8_ruled_220 (fun v10 x_10 H locs t10 h hw hS => ?_)
            refine y_if_eq C t10 dX8_ruled_223 (tgt := 230) (by decide) (fun c11 => ?_) (fun c11 => ?_)
            · have h := h.1 c11
              exact uX8_ruled_230 C hw hS xt1 xt5 xt8 (lv_sub hl [0, 1, 4, 5] rfl)  h
            · have h := h.2 c11
              refine y_iconst C dX8_ruled_226 ⟨by decide, by decide⟩ (fun v12 t12 => ?_)
              refine lv_goto (tgt := 241) C.1.1 C.1.2.1 dX8_ruled_227 (by decide) ?_
              exact uX8_ruled_241 C hw hS xt1 xt5 xt8 t12 (lv_sub hl [0, 1, 4, 5] rfl)  h
  · have h := h.2 c1
    refine y_bipush C dX8_ruled_189 ⟨by decide, by decide⟩ (fun v13 t13 => ?_)
    exact y_iret C hw hS t13 h dX8_ruled_191
set_option maxHeartbeats 4000000 in
set_option maxRecDepth 10000 in
theorem uX8_ruled_176 {p : Program} {l : Launch} {e : Env} {s : State} {m : MethodId} {args : Array Value} {below : List Frame} {meth : Method} {c : Code} {G : GG} {SB : St} (C : Cx p s m args meth c G RX8 cX8_ruled 10 (some .int)) {S : St} {H : Heap} {locs : List Loc} {ls : Array Slot}  {k : Int → St → Prop} (hw : Wd G ((injR SB) S) H) (hS : va_S (AG G) s.heap H locs) {xv1 : Int32} {x1 : Int} (xt1 : xv1.toInt = x1) {xv2 : Int32} {x2 : Int} (xt2 : xv2.toInt = x2) {xv3 : Int32} {x3 : Int} (xt3 : xv3.toInt = x3) {xv5 : Int32} {x5 : Int} (xt5 : xv5.toInt = x5) {xv8 : Int32} {x8 : Int} (xt8 : xv8.toInt = x8) {sv0 : Int32} {s0 : Int} (st0 : sv0.toInt = s0) (hl : lv_has ls 10 [(0, .ref (G.2.2 1042)), (1, .int xv1), (2, .int xv2), (3, .int xv3), (5, .int xv5), (8, .int xv8)])  (h : wX8_ruled_176 S x1 x2 x3 x5 x8 s0 k) : W p l e (rmF 9 211) s m args below meth c H locs 0 0 (MQ below (QcI G (injR SB) k) args s 0 0 (AG G)) (F0 m 176 ls [.int sv0]) := by
  refine lv_iload_n C.1.1 C.1.2.1 dX8_ruled_176 rfl (lv_at hl 1 rfl) ?_
  refine y_iconst C dX8_ruled_177 ⟨by decide, by decide⟩ (fun v1 t1 => ?_)
  refine y_icmp_ne C xt1 t1 dX8_ruled_178 (tgt := 185) (by decide) (fun c2 => ?_) (fun c2 => ?_)
  · have h := h.1 c2
    refine y_iconst C dX8_ruled_185 ⟨by decide, by decide⟩ (fun v3 t3 => ?_)
    exact uX8_ruled_186 C hw hS xt1 xt2 xt3 xt5 xt8 st0 t3 (lv_sub hl [0, 1, 2, 3, 4, 5] rfl)  h
  · have h := h.2 c2
    refine y_iconst C dX8_ruled_181 ⟨by decide, by decide⟩ (fun v4 t4 => ?_)
    refine lv_goto (tgt := 186) C.1.1 C.1.2.1 dX8_ruled_182 (by decide) ?_
    exact uX8_ruled_186 C hw hS xt1 xt2 xt3 xt5 xt8 st0 t4 (lv_sub hl [0, 1, 2, 3, 4, 5] rfl)  h
set_option maxHeartbeats 4000000 in
set_option maxRecDepth 10000 in
theorem uX8_ruled_152 {p : Program} {l : Launch} {e : Env} {s : State} {m : MethodId} {args : Array Value} {below : List Frame} {meth : Method} {c : Code} {G : GG} {SB : St} (C : Cx p s m args meth c G RX8 cX8_ruled 10 (some .int)) {S : St} {H : Heap} {locs : List Loc} {ls : Array Slot}  {k : Int → St → Prop} (hw : Wd G ((injR SB) S) H) (hS : va_S (AG G) s.heap H locs) {xv1 : Int32} {x1 : Int} (xt1 : xv1.toInt = x1) {xv2 : Int32} {x2 : Int} (xt2 : xv2.toInt = x2) {xv3 : Int32} {x3 : Int} (xt3 : xv3.toInt = x3) {xv5 : Int32} {x5 : Int} (xt5 : xv5.toInt = x5) {xv8 : Int32} {x8 : Int} (xt8 : xv8.toInt = x8) {sv1 : Int32} {s1 : Int} (st1 : sv1.toInt = s1) {sv2 : Int32} {s2 : Int} (st2 : sv2.toInt = s2) {sv3 : Int32} {s3 : Int} (st3 : sv3.toInt = s3) {sv4 : Int32} {s4 : Int} (st4 : sv4.toInt = s4) (hl : lv_has ls 10 [(0, .ref (G.2.2 1042)), (1, .int xv1), (2, .int xv2), (3, .int xv3), (5, .int xv5), (8, .int xv8)])  (h : wX8_ruled_152 S x1 x2 x3 x5 x8 s1 s2 s3 s4 k) : W p l e (rmF 9 211) s m args below meth c H locs 0 0 (MQ below (QcI G (injR SB) k) args s 0 0 (AG G)) (F0 m 152 ls [.int sv4, .int sv3, .int sv2, .int sv1, .ref (G.2.2 1042)]) := by
  refine y_cVIp C (As := [.int sv1, .int sv2, .int sv3, .int sv4]) (rest := []) ml_X8_437 (kX8_mayHave l G SB S st1 st2 st3 st4 h) (ocr SB) (T := TX8) (N := 60) rfl (by decide) ⟨(Nat.le_of_ble_eq_true rfl), (Nat.le_of_ble_eq_true rfl)⟩ hl.1 rfl rfl (Nat.le_of_ble_eq_true rfl) hw hS dX8_ruled_152 (fun v1 x_1 H locs t1 h hw hS => ?_)
  refine y_if_ne C t1 dX8_ruled_155 (tgt := 161) (by decide) (fun c2 => ?_) (fun c2 => ?_)
  · have h := h.1 c2
    refine lv_aload_n C.1.1 C.1.2.1 dX8_ruled_161 rfl (lv_at hl 0 rfl) ?_
    refine lv_iload C.1.1 C.1.2.1 dX8_ruled_162 (lv_at hl 5 rfl) ?_
    refine y_cVIp C (As := [.int xv8]) (rest := []) ml_X8_380 (kX8_shapeOf l G SB S xt8 h) (ocr SB) (T := TX8) (N := 60) rfl (by decide) ⟨(Nat.le_of_ble_eq_true rfl), (Nat.le_of_ble_eq_true rfl)⟩ hl.1 rfl rfl (Nat.le_of_ble_eq_true rfl) hw hS dX8_ruled_164 (fun v3 x_3 H locs t3 h hw hS => ?_)
    refine y_iconst C dX8_ruled_167 ⟨by decide, by decide⟩ (fun v4 t4 => ?_)
    refine y_icmp_ne C t3 t4 dX8_ruled_168 (tgt := 175) (by decide) (fun c5 => ?_) (fun c5 => ?_)
    · have h := h.1 c5
      refine y_iconst C dX8_ruled_175 ⟨by decide, by decide⟩ (fun v6 t6 => ?_)
      exact uX8_ruled_176 C hw hS xt1 xt2 xt3 xt5 xt8 t6 (lv_sub hl [0, 1, 2, 3, 4, 5] rfl)  h
    · have h := h.2 c5
      refine y_iconst C dX8_ruled_171 ⟨by decide, by decide⟩ (fun v7 t7 => ?_)
      refine lv_goto (tgt := 176) C.1.1 C.1.2.1 dX8_ruled_172 (by decide) ?_
      exact uX8_ruled_176 C hw hS xt1 xt2 xt3 xt5 xt8 t7 (lv_sub hl [0, 1, 2, 3, 4, 5] rfl)  h
  · have h := h.2 c2
    refine y_bipush C dX8_ruled_158 ⟨by decide, by decide⟩ (fun v8 t8 => ?_)
    exact y_iret C hw hS t8 h dX8_ruled_160
set_option maxHeartbeats 4000000 in
set_option maxRecDepth 10000 in
theorem uX8_ruled_122 {p : Program} {l : Launch} {e : Env} {s : State} {m : MethodId} {args : Array Value} {below : List Frame} {meth : Method} {c : Code} {G : GG} {SB : St} (C : Cx p s m args meth c G RX8 cX8_ruled 10 (some .int)) {S : St} {H : Heap} {locs : List Loc} {ls : Array Slot}  {k : Int → St → Prop} (hw : Wd G ((injR SB) S) H) (hS : va_S (AG G) s.heap H locs) {xv1 : Int32} {x1 : Int} (xt1 : xv1.toInt = x1) {xv2 : Int32} {x2 : Int} (xt2 : xv2.toInt = x2) {xv3 : Int32} {x3 : Int} (xt3 : xv3.toInt = x3) {xv4 : Int32} {x4 : Int} (xt4 : xv4.toInt = x4) {xv5 : Int32} {x5 : Int} (xt5 : xv5.toInt = x5) {sv1 : Int32} {s1 : Int} (st1 : sv1.toInt = s1) (hl : lv_has ls 10 [(0, .ref (G.2.2 1042)), (1, .int xv1), (2, .int xv2), (3, .int xv3), (4, .int xv4), (5, .int xv5)])  (h : wX8_ruled_122 S x1 x2 x3 x4 x5 s1 k) : W p l e (rmF 9 211) s m args below meth c H locs 0 0 (MQ below (QcI G (injR SB) k) args s 0 0 (AG G)) (F0 m 122 ls [.int sv1, .ref (G.2.2 1042)]) := by
  refine lv_iload C.1.1 C.1.2.1 dX8_ruled_122 (lv_at hl 4 rfl) ?_
  refine y_cVI C (As := [.int sv1, .int xv4]) (rest := []) ml_X8_434 (kX8_lookedUp l G SB S st1 xt4 h) (ocr SB) (T := TX8) (N := 60) rfl (by decide) ⟨(Nat.le_of_ble_eq_true rfl), (Nat.le_of_ble_eq_true rfl)⟩ hl.1 rfl rfl (Nat.le_of_ble_eq_true rfl) hw hS dX8_ruled_124 (fun v1 x_1 S_1 H locs t1 h hw hS => ?_)
  refine lv_istore (lv' := [(8, .int v1), (0, .ref (G.2.2 1042)), (1, .int xv1), (2, .int xv2), (3, .int xv3), (4, .int xv4), (5, .int xv5)]) C.1.1 C.1.2.1 dX8_ruled_127 hl (by decide) rfl (fun ls hl => ?_)
  refine lv_iload C.1.1 C.1.2.1 dX8_ruled_129 (lv_at hl 0 rfl) ?_
  refine y_if_ge C t1 dX8_ruled_131 (tgt := 136) (by decide) (fun c2 => ?_) (fun c2 => ?_)
  · have h := h.1 c2
    refine lv_aload_n C.1.1 C.1.2.1 dX8_ruled_136 rfl (lv_at hl 1 rfl) ?_
    refine lv_iload_n C.1.1 C.1.2.1 dX8_ruled_137 rfl (lv_at hl 3 rfl) ?_
    refine lv_iload_n C.1.1 C.1.2.1 dX8_ruled_138 rfl (lv_at hl 4 rfl) ?_
    refine lv_iload C.1.1 C.1.2.1 dX8_ruled_139 (lv_at hl 0 rfl) ?_
    refine lv_iload_n C.1.1 C.1.2.1 dX8_ruled_141 rfl (lv_at hl 2 rfl) ?_
    refine y_iconst C dX8_ruled_142 ⟨by decide, by decide⟩ (fun v3 t3 => ?_)
    refine y_icmp_ne C xt1 t3 dX8_ruled_143 (tgt := 150) (by decide) (fun c4 => ?_) (fun c4 => ?_)
    · have h := h.1 c4
      refine lv_iload C.1.1 C.1.2.1 dX8_ruled_150 (lv_at hl 6 rfl) ?_
      exact uX8_ruled_152 C hw hS xt1 xt2 xt3 xt5 t1 xt2 xt3 t1 xt5 (lv_sub hl [1, 2, 3, 4, 6, 0] rfl)  h
    · have h := h.2 c4
      refine lv_iload_n C.1.1 C.1.2.1 dX8_ruled_146 rfl (lv_at hl 3 rfl) ?_
      refine lv_goto (tgt := 152) C.1.1 C.1.2.1 dX8_ruled_147 (by decide) ?_
      exact uX8_ruled_152 C hw hS xt1 xt2 xt3 xt5 t1 xt2 xt3 t1 xt2 (lv_sub hl [1, 2, 3, 4, 6, 0] rfl)  h
  · have h := h.2 c2
    refine y_iconst C dX8_ruled_134 ⟨by decide, by decide⟩ (fun v5 t5 => ?_)
    exact y_iret C hw hS t5 h dX8_ruled_135
set_option maxHeartbeats 4000000 in
set_option maxRecDepth 10000 in
theorem uX8_ruled_100 {p : Program} {l : Launch} {e : Env} {s : State} {m : MethodId} {args : Array Value} {below : List Frame} {meth : Method} {c : Code} {G : GG} {SB : St} (C : Cx p s m args meth c G RX8 cX8_ruled 10 (some .int)) {S : St} {H : Heap} {locs : List Loc} {ls : Array Slot}  {k : Int → St → Prop} (hw : Wd G ((injR SB) S) H) (hS : va_S (AG G) s.heap H locs) {xv1 : Int32} {x1 : Int} (xt1 : xv1.toInt = x1) {xv2 : Int32} {x2 : Int} (xt2 : xv2.toInt = x2) {xv3 : Int32} {x3 : Int} (xt3 : xv3.toInt = x3) {xv4 : Int32} {x4 : Int} (xt4 : xv4.toInt = x4) {xv5 : Int32} {x5 : Int} (xt5 : xv5.toInt = x5) {sv0 : Int32} {s0 : Int} (st0 : sv0.toInt = s0) (hl : lv_has ls 10 [(0, .ref (G.2.2 1042)), (1, .int xv1), (2, .int xv2), (3, .int xv3), (4, .int xv4), (5, .int xv5)])  (h : wX8_ruled_100 S x1 x2 x3 x4 x5 s0 k) : W p l e (rmF 9 211) s m args below meth c H locs 0 0 (MQ below (QcI G (injR SB) k) args s 0 0 (AG G)) (F0 m 100 ls [.int sv0]) := by
  refine lv_istore (lv' := [(7, .int sv0), (0, .ref (G.2.2 1042)), (1, .int xv1), (2, .int xv2), (3, .int xv3), (4, .int xv4), (5, .int xv5)]) C.1.1 C.1.2.1 dX8_ruled_100 hl (by decide) rfl (fun ls hl => ?_)
  refine lv_aload_n C.1.1 C.1.2.1 dX8_ruled_102 rfl (lv_at hl 1 rfl) ?_
  refine lv_iload C.1.1 C.1.2.1 dX8_ruled_103 (lv_at hl 0 rfl) ?_
  refine y_if_eq C st0 dX8_ruled_105 (tgt := 121) (by decide) (fun c1 => ?_) (fun c1 => ?_)
  · have h := h.1 c1
    refine lv_iload_n C.1.1 C.1.2.1 dX8_ruled_121 rfl (lv_at hl 4 rfl) ?_
    exact uX8_ruled_122 C hw hS xt1 xt2 xt3 xt4 xt5 xt3 (lv_sub hl [1, 2, 3, 4, 5, 6] rfl)  h
  · have h := h.2 c1
    refine lv_aload_n C.1.1 C.1.2.1 dX8_ruled_108 rfl (lv_at hl 1 rfl) ?_
    refine y_getA C fl_X8_94 hw (ocr SB) rfl (o := 19) rfl dX8_ruled_109 ?_
    refine lv_aload_n C.1.1 C.1.2.1 dX8_ruled_112 rfl (lv_at hl 1 rfl) ?_
    refine lv_iload_n C.1.1 C.1.2.1 dX8_ruled_113 rfl (lv_at hl 3 rfl) ?_
    refine y_cVIp C (As := [.int xv2]) (rest := [.ref (G.2.2 (1061)), .ref (G.2.2 1042)]) ml_X8_214 (kX8_t l G SB S xt2 h) (ocr SB) (T := TX8) (N := 60) rfl (by decide) ⟨(Nat.le_of_ble_eq_true rfl), (Nat.le_of_ble_eq_true rfl)⟩ hl.1 rfl rfl (Nat.le_of_ble_eq_true rfl) hw hS dX8_ruled_114 (fun v3 x_3 H locs t3 h hw hS => ?_)
    obtain ⟨b4, h⟩ := h
    refine y_iald C hw (acr_28 SB) t3 b4 dX8_ruled_117 (fun v4 t4 => ?_)
    refine lv_goto (tgt := 122) C.1.1 C.1.2.1 dX8_ruled_118 (by decide) ?_
    exact uX8_ruled_122 C hw hS xt1 xt2 xt3 xt4 xt5 t4 (lv_sub hl [1, 2, 3, 4, 5, 6] rfl)  h
set_option maxHeartbeats 4000000 in
set_option maxRecDepth 10000 in
theorem uX8_ruled_99 {p : Program} {l : Launch} {e : Env} {s : State} {m : MethodId} {args : Array Value} {below : List Frame} {meth : Method} {c : Code} {G : GG} {SB : St} (C : Cx p s m args meth c G RX8 cX8_ruled 10 (some .int)) {S : St} {H : Heap} {locs : List Loc} {ls : Array Slot}  {k : Int → St → Prop} (hw : Wd G ((injR SB) S) H) (hS : va_S (AG G) s.heap H locs) {xv1 : Int32} {x1 : Int} (xt1 : xv1.toInt = x1) {xv2 : Int32} {x2 : Int} (xt2 : xv2.toInt = x2) {xv3 : Int32} {x3 : Int} (xt3 : xv3.toInt = x3) {xv4 : Int32} {x4 : Int} (xt4 : xv4.toInt = x4) {xv5 : Int32} {x5 : Int} (xt5 : xv5.toInt = x5) (hl : lv_has ls 10 [(0, .ref (G.2.2 1042)), (1, .int xv1), (2, .int xv2), (3, .int xv3), (4, .int xv4), (5, .int xv5)])  (h : wX8_ruled_99 S x1 x2 x3 x4 x5 k) : W p l e (rmF 9 211) s m args below meth c H locs 0 0 (MQ below (QcI G (injR SB) k) args s 0 0 (AG G)) (F0 m 99 ls []) := by
  refine y_iconst C dX8_ruled_99 ⟨by decide, by decide⟩ (fun v1 t1 => ?_)
  exact uX8_ruled_100 C hw hS xt1 xt2 xt3 xt4 xt5 t1 (lv_sub hl [0, 1, 2, 3, 4, 5] rfl)  h
set_option maxHeartbeats 4000000 in
set_option maxRecDepth 10000 in
theorem uX8_ruled_67 {p : Program} {l : Launch} {e : Env} {s : State} {m : MethodId} {args : Array Value} {below : List Frame} {meth : Method} {c : Code} {G : GG} {SB : St} (C : Cx p s m args meth c G RX8 cX8_ruled 10 (some .int)) {S : St} {H : Heap} {locs : List Loc} {ls : Array Slot}  {k : Int → St → Prop} (hw : Wd G ((injR SB) S) H) (hS : va_S (AG G) s.heap H locs) {xv1 : Int32} {x1 : Int} (xt1 : xv1.toInt = x1) {xv2 : Int32} {x2 : Int} (xt2 : xv2.toInt = x2) {xv3 : Int32} {x3 : Int} (xt3 : xv3.toInt = x3) {xv4 : Int32} {x4 : Int} (xt4 : xv4.toInt = x4) {xv5 : Int32} {x5 : Int} (xt5 : xv5.toInt = x5) {xv6 : Int32} {x6 : Int} (xt6 : xv6.toInt = x6) (hl : lv_has ls 10 [(0, .ref (G.2.2 1042)), (1, .int xv1), (2, .int xv2), (3, .int xv3), (4, .int xv4), (5, .int xv5), (6, .int xv6)])  (h : wX8_ruled_67 S x1 x2 x3 x4 x5 x6 k) : W p l e (rmF 9 211) s m args below meth c H locs 0 0 (MQ below (QcI G (injR SB) k) args s 0 0 (AG G)) (F0 m 67 ls []) := by
  refine lv_iload_n C.1.1 C.1.2.1 dX8_ruled_67 rfl (lv_at hl 1 rfl) ?_
  refine y_iconst C dX8_ruled_68 ⟨by decide, by decide⟩ (fun v1 t1 => ?_)
  refine y_icmp_ne C xt1 t1 dX8_ruled_69 (tgt := 99) (by decide) (fun c2 => ?_) (fun c2 => ?_)
  · have h := h.1 c2
    exact uX8_ruled_99 C hw hS xt1 xt2 xt3 xt4 xt5 (lv_sub hl [0, 1, 2, 3, 4, 5] rfl)  h
  · have h := h.2 c2
    refine lv_iload C.1.1 C.1.2.1 dX8_ruled_72 (lv_at hl 6 rfl) ?_
    refine y_if_ne C xt6 dX8_ruled_74 (tgt := 99) (by decide) (fun c3 => ?_) (fun c3 => ?_)
    · have h := h.1 c3
      exact uX8_ruled_99 C hw hS xt1 xt2 xt3 xt4 xt5 (lv_sub hl [0, 1, 2, 3, 4, 5] rfl)  h
    · have h := h.2 c3
      refine lv_aload_n C.1.1 C.1.2.1 dX8_ruled_77 rfl (lv_at hl 0 rfl) ?_
      refine y_getA C fl_X8_103 hw (ocr SB) rfl (o := 22) rfl dX8_ruled_78 ?_
      refine y_bipush C dX8_ruled_81 ⟨by decide, by decide⟩ (fun v5 t5 => ?_)
      refine lv_aload_n C.1.1 C.1.2.1 dX8_ruled_83 rfl (lv_at hl 0 rfl) ?_
      refine lv_iload_n C.1.1 C.1.2.1 dX8_ruled_84 rfl (lv_at hl 2 rfl) ?_
      refine y_cVIp C (As := [.int xv2]) (rest := [.int v5, .ref (G.2.2 (1064))]) ml_X8_214 (kX8_t l G SB S xt2 h) (ocr SB) (T := TX8) (N := 60) rfl (by decide) ⟨(Nat.le_of_ble_eq_true rfl), (Nat.le_of_ble_eq_true rfl)⟩ hl.1 rfl rfl (Nat.le_of_ble_eq_true rfl) hw hS dX8_ruled_85 (fun v6 x_6 H locs t6 h hw hS => ?_)
      refine y_imul C t5 t6 dX8_ruled_88 (fun v7 t7 => ?_)
      refine lv_iload_n C.1.1 C.1.2.1 dX8_ruled_89 rfl (lv_at hl 3 rfl) ?_
      refine y_iadd C t7 xt3 dX8_ruled_90 (fun v8 t8 => ?_)
      obtain ⟨b9, h⟩ := h
      refine y_zald C hw (acr_31 SB) t8 b9 dX8_ruled_91 (fun v9 t9 => ?_)
      refine y_if_eq C t9 dX8_ruled_92 (tgt := 99) (by decide) (fun c10 => ?_) (fun c10 => ?_)
      · have h := h.1 c10
        exact uX8_ruled_99 C hw hS xt1 xt2 xt3 xt4 xt5 (lv_sub hl [0, 1, 2, 3, 4, 5] rfl)  h
      · have h := h.2 c10
        refine y_iconst C dX8_ruled_95 ⟨by decide, by decide⟩ (fun v11 t11 => ?_)
        refine lv_goto (tgt := 100) C.1.1 C.1.2.1 dX8_ruled_96 (by decide) ?_
        exact uX8_ruled_100 C hw hS xt1 xt2 xt3 xt4 xt5 t11 (lv_sub hl [0, 1, 2, 3, 4, 5] rfl)  h
set_option maxHeartbeats 4000000 in
set_option maxRecDepth 10000 in
theorem uX8_ruled_45 {p : Program} {l : Launch} {e : Env} {s : State} {m : MethodId} {args : Array Value} {below : List Frame} {meth : Method} {c : Code} {G : GG} {SB : St} (C : Cx p s m args meth c G RX8 cX8_ruled 10 (some .int)) {S : St} {H : Heap} {locs : List Loc} {ls : Array Slot}  {k : Int → St → Prop} (hw : Wd G ((injR SB) S) H) (hS : va_S (AG G) s.heap H locs) {xv1 : Int32} {x1 : Int} (xt1 : xv1.toInt = x1) {xv2 : Int32} {x2 : Int} (xt2 : xv2.toInt = x2) {xv3 : Int32} {x3 : Int} (xt3 : xv3.toInt = x3) {xv4 : Int32} {x4 : Int} (xt4 : xv4.toInt = x4) {xv5 : Int32} {x5 : Int} (xt5 : xv5.toInt = x5) {xv6 : Int32} {x6 : Int} (xt6 : xv6.toInt = x6) (hl : lv_has ls 10 [(0, .ref (G.2.2 1042)), (1, .int xv1), (2, .int xv2), (3, .int xv3), (4, .int xv4), (5, .int xv5), (6, .int xv6)])  (h : wX8_ruled_45 S x1 x2 x3 x4 x5 x6 k) : W p l e (rmF 9 211) s m args below meth c H locs 0 0 (MQ below (QcI G (injR SB) k) args s 0 0 (AG G)) (F0 m 45 ls []) := by
  refine lv_iload_n C.1.1 C.1.2.1 dX8_ruled_45 rfl (lv_at hl 1 rfl) ?_
  refine y_iconst C dX8_ruled_46 ⟨by decide, by decide⟩ (fun v1 t1 => ?_)
  refine y_icmp_ne C xt1 t1 dX8_ruled_47 (tgt := 67) (by decide) (fun c2 => ?_) (fun c2 => ?_)
  · have h := h.1 c2
    exact uX8_ruled_67 C hw hS xt1 xt2 xt3 xt4 xt5 xt6 (lv_sub hl [0, 1, 2, 3, 4, 5, 6] rfl)  h
  · have h := h.2 c2
    refine lv_iload C.1.1 C.1.2.1 dX8_ruled_50 (lv_at hl 6 rfl) ?_
    refine y_if_eq C xt6 dX8_ruled_52 (tgt := 67) (by decide) (fun c3 => ?_) (fun c3 => ?_)
    · have h := h.1 c3
      exact uX8_ruled_67 C hw hS xt1 xt2 xt3 xt4 xt5 xt6 (lv_sub hl [0, 1, 2, 3, 4, 5, 6] rfl)  h
    · have h := h.2 c3
      refine lv_aload_n C.1.1 C.1.2.1 dX8_ruled_55 rfl (lv_at hl 0 rfl) ?_
      refine lv_iload_n C.1.1 C.1.2.1 dX8_ruled_56 rfl (lv_at hl 2 rfl) ?_
      refine lv_iload_n C.1.1 C.1.2.1 dX8_ruled_57 rfl (lv_at hl 3 rfl) ?_
      refine y_cVIp C (As := [.int xv2, .int xv3]) (rest := []) ml_X8_431 (kX8_isRef l G SB S xt2 xt3 h) (ocr SB) (T := TX8) (N := 60) rfl (by decide) ⟨(Nat.le_of_ble_eq_true rfl), (Nat.le_of_ble_eq_true rfl)⟩ hl.1 rfl rfl (Nat.le_of_ble_eq_true rfl) hw hS dX8_ruled_58 (fun v4 x_4 H locs t4 h hw hS => ?_)
      refine y_if_ne C t4 dX8_ruled_61 (tgt := 67) (by decide) (fun c5 => ?_) (fun c5 => ?_)
      · have h := h.1 c5
        exact uX8_ruled_67 C hw hS xt1 xt2 xt3 xt4 xt5 xt6 (lv_sub hl [0, 1, 2, 3, 4, 5, 6] rfl)  h
      · have h := h.2 c5
        refine y_bipush C dX8_ruled_64 ⟨by decide, by decide⟩ (fun v6 t6 => ?_)
        exact y_iret C hw hS t6 h dX8_ruled_66
set_option maxHeartbeats 4000000 in
set_option maxRecDepth 10000 in
theorem uX8_ruled_35 {p : Program} {l : Launch} {e : Env} {s : State} {m : MethodId} {args : Array Value} {below : List Frame} {meth : Method} {c : Code} {G : GG} {SB : St} (C : Cx p s m args meth c G RX8 cX8_ruled 10 (some .int)) {S : St} {H : Heap} {locs : List Loc} {ls : Array Slot}  {k : Int → St → Prop} (hw : Wd G ((injR SB) S) H) (hS : va_S (AG G) s.heap H locs) {xv1 : Int32} {x1 : Int} (xt1 : xv1.toInt = x1) {xv2 : Int32} {x2 : Int} (xt2 : xv2.toInt = x2) {xv3 : Int32} {x3 : Int} (xt3 : xv3.toInt = x3) {xv4 : Int32} {x4 : Int} (xt4 : xv4.toInt = x4) {xv5 : Int32} {x5 : Int} (xt5 : xv5.toInt = x5) {xv6 : Int32} {x6 : Int} (xt6 : xv6.toInt = x6) (hl : lv_has ls 10 [(0, .ref (G.2.2 1042)), (1, .int xv1), (2, .int xv2), (3, .int xv3), (4, .int xv4), (5, .int xv5), (6, .int xv6)])  (h : wX8_ruled_35 S x1 x2 x3 x4 x5 x6 k) : W p l e (rmF 9 211) s m args below meth c H locs 0 0 (MQ below (QcI G (injR SB) k) args s 0 0 (AG G)) (F0 m 35 ls []) := by
  refine lv_iload_n C.1.1 C.1.2.1 dX8_ruled_35 rfl (lv_at hl 1 rfl) ?_
  refine y_iconst C dX8_ruled_36 ⟨by decide, by decide⟩ (fun v1 t1 => ?_)
  refine y_icmp_ne C xt1 t1 dX8_ruled_37 (tgt := 45) (by decide) (fun c2 => ?_) (fun c2 => ?_)
  · have h := h.1 c2
    exact uX8_ruled_45 C hw hS xt1 xt2 xt3 xt4 xt5 xt6 (lv_sub hl [0, 1, 2, 3, 4, 5, 6] rfl)  h
  · have h := h.2 c2
    refine lv_iload C.1.1 C.1.2.1 dX8_ruled_40 (lv_at hl 6 rfl) ?_
    refine y_if_eq C xt6 dX8_ruled_42 (tgt := 64) (by decide) (fun c3 => ?_) (fun c3 => ?_)
    · have h := h.1 c3
      refine y_bipush C dX8_ruled_64 ⟨by decide, by decide⟩ (fun v4 t4 => ?_)
      exact y_iret C hw hS t4 h dX8_ruled_66
    · have h := h.2 c3
      exact uX8_ruled_45 C hw hS xt1 xt2 xt3 xt4 xt5 xt6 (lv_sub hl [0, 1, 2, 3, 4, 5, 6] rfl)  h
set_option maxHeartbeats 4000000 in
set_option maxRecDepth 10000 in
theorem uX8_ruled_24 {p : Program} {l : Launch} {e : Env} {s : State} {m : MethodId} {args : Array Value} {below : List Frame} {meth : Method} {c : Code} {G : GG} {SB : St} (C : Cx p s m args meth c G RX8 cX8_ruled 10 (some .int)) {S : St} {H : Heap} {locs : List Loc} {ls : Array Slot}  {k : Int → St → Prop} (hw : Wd G ((injR SB) S) H) (hS : va_S (AG G) s.heap H locs) {xv1 : Int32} {x1 : Int} (xt1 : xv1.toInt = x1) {xv2 : Int32} {x2 : Int} (xt2 : xv2.toInt = x2) {xv3 : Int32} {x3 : Int} (xt3 : xv3.toInt = x3) {xv4 : Int32} {x4 : Int} (xt4 : xv4.toInt = x4) {xv5 : Int32} {x5 : Int} (xt5 : xv5.toInt = x5) {sv0 : Int32} {s0 : Int} (st0 : sv0.toInt = s0) (hl : lv_has ls 10 [(0, .ref (G.2.2 1042)), (1, .int xv1), (2, .int xv2), (3, .int xv3), (4, .int xv4), (5, .int xv5)])  (h : wX8_ruled_24 S x1 x2 x3 x4 x5 s0 k) : W p l e (rmF 9 211) s m args below meth c H locs 0 0 (MQ below (QcI G (injR SB) k) args s 0 0 (AG G)) (F0 m 24 ls [.int sv0]) := by
  refine lv_istore (lv' := [(6, .int sv0), (0, .ref (G.2.2 1042)), (1, .int xv1), (2, .int xv2), (3, .int xv3), (4, .int xv4), (5, .int xv5)]) C.1.1 C.1.2.1 dX8_ruled_24 hl (by decide) rfl (fun ls hl => ?_)
  refine lv_iload_n C.1.1 C.1.2.1 dX8_ruled_26 rfl (lv_at hl 2 rfl) ?_
  refine y_if_ne C xt1 dX8_ruled_27 (tgt := 35) (by decide) (fun c1 => ?_) (fun c1 => ?_)
  · have h := h.1 c1
    exact uX8_ruled_35 C hw hS xt1 xt2 xt3 xt4 xt5 st0 (lv_sub hl [1, 2, 3, 4, 5, 6, 0] rfl)  h
  · have h := h.2 c1
    refine lv_iload C.1.1 C.1.2.1 dX8_ruled_30 (lv_at hl 0 rfl) ?_
    refine y_if_ne C st0 dX8_ruled_32 (tgt := 64) (by decide) (fun c2 => ?_) (fun c2 => ?_)
    · have h := h.1 c2
      refine y_bipush C dX8_ruled_64 ⟨by decide, by decide⟩ (fun v3 t3 => ?_)
      exact y_iret C hw hS t3 h dX8_ruled_66
    · have h := h.2 c2
      exact uX8_ruled_35 C hw hS xt1 xt2 xt3 xt4 xt5 st0 (lv_sub hl [1, 2, 3, 4, 5, 6, 0] rfl)  h
set_option maxHeartbeats 4000000 in
set_option maxRecDepth 10000 in
theorem uX8_ruled_0 {p : Program} {l : Launch} {e : Env} {s : State} {m : MethodId} {args : Array Value} {below : List Frame} {meth : Method} {c : Code} {G : GG} {SB : St} (C : Cx p s m args meth c G RX8 cX8_ruled 10 (some .int)) {S : St} {H : Heap} {locs : List Loc} {ls : Array Slot}  {k : Int → St → Prop} (hw : Wd G ((injR SB) S) H) (hS : va_S (AG G) s.heap H locs) {xv1 : Int32} {x1 : Int} (xt1 : xv1.toInt = x1) {xv2 : Int32} {x2 : Int} (xt2 : xv2.toInt = x2) {xv3 : Int32} {x3 : Int} (xt3 : xv3.toInt = x3) {xv4 : Int32} {x4 : Int} (xt4 : xv4.toInt = x4) {xv5 : Int32} {x5 : Int} (xt5 : xv5.toInt = x5) (hl : lv_has ls 10 [(0, .ref (G.2.2 1042)), (1, .int xv1), (2, .int xv2), (3, .int xv3), (4, .int xv4), (5, .int xv5)])  (h : wX8_ruled_0 S x1 x2 x3 x4 x5 k) : W p l e (rmF 9 211) s m args below meth c H locs 0 0 (MQ below (QcI G (injR SB) k) args s 0 0 (AG G)) (F0 m 0 ls []) := by
  refine lv_aload_n C.1.1 C.1.2.1 dX8_ruled_0 rfl (lv_at hl 0 rfl) ?_
  refine y_iconst C dX8_ruled_1 ⟨by decide, by decide⟩ (fun v1 t1 => ?_)
  obtain ⟨S_2, e2⟩ : ∃ z : St, z = up S 0 58 0 := ⟨_, rfl⟩
  have h := h S_2 e2
  refine y_putI C fl_X8_428 fp_8_58 hw hS (ocr SB) rfl t1 dX8_ruled_2 (fun H locs hw hS => ?_)
  have hw : Wd G ((injR SB) S_2) H := by rw [e2]; exact hw
  refine lv_aload_n C.1.1 C.1.2.1 dX8_ruled_5 rfl (lv_at hl 0 rfl) ?_
  refine y_getA C fl_X8_70 hw (ocr SB) rfl (o := 11) rfl dX8_ruled_6 ?_
  refine lv_aload_n C.1.1 C.1.2.1 dX8_ruled_9 rfl (lv_at hl 0 rfl) ?_
  refine lv_iload_n C.1.1 C.1.2.1 dX8_ruled_10 rfl (lv_at hl 3 rfl) ?_
  refine y_cVIp C (As := [.int xv3]) (rest := [.ref (G.2.2 (1053))]) ml_X8_214 (kX8_t l G SB S_2 xt3 h) (ocr SB) (T := TX8) (N := 60) rfl (by decide) ⟨(Nat.le_of_ble_eq_true rfl), (Nat.le_of_ble_eq_true rfl)⟩ hl.1 rfl rfl (Nat.le_of_ble_eq_true rfl) hw hS dX8_ruled_11 (fun v4 x_4 H locs t4 h hw hS => ?_)
  obtain ⟨b5, h⟩ := h
  refine y_iald C hw (acr_20 SB) t4 b5 dX8_ruled_14 (fun v5 t5 => ?_)
  refine y_iconst C dX8_ruled_15 ⟨by decide, by decide⟩ (fun v6 t6 => ?_)
  refine y_icmp_ne C t5 t6 dX8_ruled_16 (tgt := 23) (by decide) (fun c7 => ?_) (fun c7 => ?_)
  · have h := h.1 c7
    refine y_iconst C dX8_ruled_23 ⟨by decide, by decide⟩ (fun v8 t8 => ?_)
    exact uX8_ruled_24 C hw hS xt1 xt2 xt3 xt4 xt5 t8 (lv_sub hl [0, 1, 2, 3, 4, 5] rfl)  h
  · have h := h.2 c7
    refine y_iconst C dX8_ruled_19 ⟨by decide, by decide⟩ (fun v9 t9 => ?_)
    refine lv_goto (tgt := 24) C.1.1 C.1.2.1 dX8_ruled_20 (by decide) ?_
    exact uX8_ruled_24 C hw hS xt1 xt2 xt3 xt4 xt5 t9 (lv_sub hl [0, 1, 2, 3, 4, 5] rfl)  h
theorem kX8_ruled (l : Launch) (G : GG) (SB S : St) {xv1 : Int32} {x1 : Int} (xt1 : xv1.toInt = x1) {xv2 : Int32} {x2 : Int} (xt2 : xv2.toInt = x2) {xv3 : Int32} {x3 : Int} (xt3 : xv3.toInt = x3) {xv4 : Int32} {x4 : Int} (xt4 : xv4.toInt = x4) {xv5 : Int32} {x5 : Int} (xt5 : xv5.toInt = x5) {k : Int → St → Prop} (h : wX8_ruled S x1 x2 x3 x4 x5 k) : CnI l yX8_ruled cX8_ruled 10 (some .int) 9 211 G (injR SB) [.ref (G.2.2 1042), .int xv1, .int xv2, .int xv3, .int xv4, .int xv5] S k :=
  cn_body (by decide +kernel) (Nat.le_of_ble_eq_true rfl) (fun p e s m args below meth c ls C hw hl => uX8_ruled_0 C hw va_S.rf xt1 xt2 xt3 xt4 xt5 (lv_sub hl [0, 1, 2, 3, 4, 5] rfl) h)
set_option maxHeartbeats 4000000 in
set_option maxRecDepth 10000 in
theorem uX8_lookup_0 {p : Program} {l : Launch} {e : Env} {s : State} {m : MethodId} {args : Array Value} {below : List Frame} {meth : Method} {c : Code} {G : GG} {SB : St} (C : Cx p s m args meth c G RX8 cX8_lookup 4 (some .int)) {S : St} {H : Heap} {locs : List Loc} {ls : Array Slot}  {k : Int → St → Prop} (hw : Wd G ((injR SB) S) H) (hS : va_S (AG G) s.heap H locs) {xv1 : Int32} {x1 : Int} (xt1 : xv1.toInt = x1) {xv2 : Int32} {x2 : Int} (xt2 : xv2.toInt = x2) (hl : lv_has ls 4 [(0, .ref (G.2.2 1042)), (1, .int xv1), (2, .int xv2)])  (h : wX8_lookup_0 S x1 x2 k) : W p l e (rmF 8 185) s m args below meth c H locs 0 0 (MQ below (QcI G (injR SB) k) args s 0 0 (AG G)) (F0 m 0 ls []) := by
  refine lv_aload_n C.1.1 C.1.2.1 dX8_lookup_0 rfl (lv_at hl 0 rfl) ?_
  refine lv_iload_n C.1.1 C.1.2.1 dX8_lookup_1 rfl (lv_at hl 1 rfl) ?_
  refine y_cVI C (As := [.int xv1]) (rest := []) ml_X8_371 (kX8_isType l G SB S xt1 h) (ocr SB) (T := TX8) (N := 60) rfl (by decide) ⟨(Nat.le_of_ble_eq_true rfl), (Nat.le_of_ble_eq_true rfl)⟩ hl.1 rfl rfl (Nat.le_of_ble_eq_true rfl) hw hS dX8_lookup_2 (fun v1 x_1 S_1 H locs t1 h hw hS => ?_)
  refine y_if_eq C t1 dX8_lookup_5 (tgt := 16) (by decide) (fun c2 => ?_) (fun c2 => ?_)
  · have h := h.1 c2
    refine y_bipush C dX8_lookup_16 ⟨by decide, by decide⟩ (fun v3 t3 => ?_)
    exact y_iret C hw hS t3 h dX8_lookup_18
  · have h := h.2 c2
    refine lv_aload_n C.1.1 C.1.2.1 dX8_lookup_8 rfl (lv_at hl 0 rfl) ?_
    refine lv_iload_n C.1.1 C.1.2.1 dX8_lookup_9 rfl (lv_at hl 2 rfl) ?_
    refine y_cVI C (As := [.int xv2]) (rest := []) ml_X8_374 (kX8_isMember l G SB S_1 xt2 h) (ocr SB) (T := TX8) (N := 60) rfl (by decide) ⟨(Nat.le_of_ble_eq_true rfl), (Nat.le_of_ble_eq_true rfl)⟩ hl.1 rfl rfl (Nat.le_of_ble_eq_true rfl) hw hS dX8_lookup_10 (fun v4 x_4 S_4 H locs t4 h hw hS => ?_)
    refine y_if_ne C t4 dX8_lookup_13 (tgt := 19) (by decide) (fun c5 => ?_) (fun c5 => ?_)
    · have h := h.1 c5
      refine lv_aload_n C.1.1 C.1.2.1 dX8_lookup_19 rfl (lv_at hl 0 rfl) ?_
      refine lv_iload_n C.1.1 C.1.2.1 dX8_lookup_20 rfl (lv_at hl 1 rfl) ?_
      refine lv_iload_n C.1.1 C.1.2.1 dX8_lookup_21 rfl (lv_at hl 2 rfl) ?_
      refine y_cVI C (As := [.int xv1, .int xv2]) (rest := []) ml_X8_434 (kX8_lookedUp l G SB S_4 xt1 xt2 h) (ocr SB) (T := TX8) (N := 60) rfl (by decide) ⟨(Nat.le_of_ble_eq_true rfl), (Nat.le_of_ble_eq_true rfl)⟩ hl.1 rfl rfl (Nat.le_of_ble_eq_true rfl) hw hS dX8_lookup_22 (fun v6 x_6 S_6 H locs t6 h hw hS => ?_)
      refine lv_istore_n (lv' := [(3, .int v6), (0, .ref (G.2.2 1042)), (1, .int xv1), (2, .int xv2)]) C.1.1 C.1.2.1 dX8_lookup_25 rfl hl (by decide) rfl (fun ls hl => ?_)
      refine lv_iload_n C.1.1 C.1.2.1 dX8_lookup_26 rfl (lv_at hl 0 rfl) ?_
      refine y_if_ge C t6 dX8_lookup_27 (tgt := 34) (by decide) (fun c7 => ?_) (fun c7 => ?_)
      · have h := h.1 c7
        refine lv_aload_n C.1.1 C.1.2.1 dX8_lookup_34 rfl (lv_at hl 1 rfl) ?_
        refine lv_iload_n C.1.1 C.1.2.1 dX8_lookup_35 rfl (lv_at hl 0 rfl) ?_
        refine y_cVIp C (As := [.int v6]) (rest := []) ml_X8_444 (kX8_toldAs l G SB S_6 t6 h) (ocr SB) (T := TX8) (N := 60) rfl (by decide) ⟨(Nat.le_of_ble_eq_true rfl), (Nat.le_of_ble_eq_true rfl)⟩ hl.1 rfl rfl (Nat.le_of_ble_eq_true rfl) hw hS dX8_lookup_36 (fun v8 x_8 H locs t8 h hw hS => ?_)
        exact y_iret C hw hS t8 h dX8_lookup_39
      · have h := h.2 c7
        refine y_iconst C dX8_lookup_30 ⟨by decide, by decide⟩ (fun v9 t9 => ?_)
        refine lv_goto (tgt := 39) C.1.1 C.1.2.1 dX8_lookup_31 (by decide) ?_
        exact y_iret C hw hS t9 h dX8_lookup_39
    · have h := h.2 c5
      refine y_bipush C dX8_lookup_16 ⟨by decide, by decide⟩ (fun v10 t10 => ?_)
      exact y_iret C hw hS t10 h dX8_lookup_18
theorem kX8_lookup (l : Launch) (G : GG) (SB S : St) {xv1 : Int32} {x1 : Int} (xt1 : xv1.toInt = x1) {xv2 : Int32} {x2 : Int} (xt2 : xv2.toInt = x2) {k : Int → St → Prop} (h : wX8_lookup S x1 x2 k) : CnI l yX8_lookup cX8_lookup 4 (some .int) 8 185 G (injR SB) [.ref (G.2.2 1042), .int xv1, .int xv2] S k :=
  cn_body (by decide +kernel) (Nat.le_of_ble_eq_true rfl) (fun p e s m args below meth c ls C hw hl => uX8_lookup_0 C hw va_S.rf xt1 xt2 (lv_sub hl [0, 1, 2] rfl) h)
set_option maxHeartbeats 4000000 in
set_option maxRecDepth 10000 in
theorem uX8_specific_43 {p : Program} {l : Launch} {e : Env} {s : State} {m : MethodId} {args : Array Value} {below : List Frame} {meth : Method} {c : Code} {G : GG} {SB : St} (C : Cx p s m args meth c G RX8 cX8_specific 5 (some .int)) {S : St} {H : Heap} {locs : List Loc} {ls : Array Slot}  {k : Int → St → Prop} (hw : Wd G ((injR SB) S) H) (hS : va_S (AG G) s.heap H locs) {xv1 : Int32} {x1 : Int} (xt1 : xv1.toInt = x1) {xv2 : Int32} {x2 : Int} (xt2 : xv2.toInt = x2) {xv3 : Int32} {x3 : Int} (xt3 : xv3.toInt = x3) {sv0 : Int32} {s0 : Int} (st0 : sv0.toInt = s0) (hl : lv_has ls 5 [(0, .ref (G.2.2 1042)), (1, .int xv1), (2, .int xv2), (3, .int xv3)])  (h : wX8_specific_43 S x1 x2 x3 s0 k) : W p l e (rmF 7 161) s m args below meth c H locs 0 0 (MQ below (QcI G (injR SB) k) args s 0 0 (AG G)) (F0 m 43 ls [.int sv0]) := by
  refine lv_istore (lv' := [(4, .int sv0), (0, .ref (G.2.2 1042)), (1, .int xv1), (2, .int xv2), (3, .int xv3)]) C.1.1 C.1.2.1 dX8_specific_43 hl (by decide) rfl (fun ls hl => ?_)
  refine lv_iload C.1.1 C.1.2.1 dX8_specific_45 (lv_at hl 0 rfl) ?_
  refine y_if_lt C st0 dX8_specific_47 (tgt := 66) (by decide) (fun c1 => ?_) (fun c1 => ?_)
  · have h := h.1 c1
    refine lv_aload_n C.1.1 C.1.2.1 dX8_specific_66 rfl (lv_at hl 1 rfl) ?_
    refine lv_iload_n C.1.1 C.1.2.1 dX8_specific_67 rfl (lv_at hl 2 rfl) ?_
    refine lv_iload_n C.1.1 C.1.2.1 dX8_specific_68 rfl (lv_at hl 3 rfl) ?_
    refine y_cVV C (As := [.int xv1, .int xv2]) (rest := []) ml_X8_407 (kX8_findSpecific l G SB S xt1 xt2 h) (ocr SB) (T := TX8) (N := 60) rfl (by decide) ⟨(Nat.le_of_ble_eq_true rfl), (Nat.le_of_ble_eq_true rfl)⟩ hl.1 rfl rfl (Nat.le_of_ble_eq_true rfl) hw hS dX8_specific_69 (fun S_2 H locs h hw hS => ?_)
    refine lv_iload_n C.1.1 C.1.2.1 dX8_specific_72 rfl (lv_at hl 4 rfl) ?_
    refine y_iconst C dX8_specific_73 ⟨by decide, by decide⟩ (fun v3 t3 => ?_)
    refine lv_aload_n C.1.1 C.1.2.1 dX8_specific_74 rfl (lv_at hl 1 rfl) ?_
    refine y_getI C fl_X8_389 hw (ocr SB) rfl dX8_specific_75 (fun v4 t4 => ?_)
    refine y_iconst C dX8_specific_78 ⟨by decide, by decide⟩ (fun v5 t5 => ?_)
    refine y_isub C t4 t5 dX8_specific_79 (fun v6 t6 => ?_)
    refine y_cSIp C (As := [.int xv3, .int v3, .int v6]) (rest := []) ms_X8_165 (kX8_in l G SB S_2 xt3 t3 t6 h) ⟨(Nat.le_of_ble_eq_true rfl), (Nat.le_of_ble_eq_true rfl)⟩ hl.1 rfl rfl (Nat.le_of_ble_eq_true rfl) hw hS dX8_specific_80 (fun v7 x_7 H locs t7 h hw hS => ?_)
    refine y_if_eq C t7 dX8_specific_83 (tgt := 99) (by decide) (fun c8 => ?_) (fun c8 => ?_)
    · have h := h.1 c8
      refine y_bipush C dX8_specific_99 ⟨by decide, by decide⟩ (fun v9 t9 => ?_)
      exact y_iret C hw hS t9 h dX8_specific_101
    · have h := h.2 c8
      refine lv_aload_n C.1.1 C.1.2.1 dX8_specific_86 rfl (lv_at hl 1 rfl) ?_
      refine lv_aload_n C.1.1 C.1.2.1 dX8_specific_87 rfl (lv_at hl 1 rfl) ?_
      refine y_getA C fl_X8_152 hw (ocr SB) rfl (o := 38) rfl dX8_specific_88 ?_
      refine lv_iload_n C.1.1 C.1.2.1 dX8_specific_91 rfl (lv_at hl 4 rfl) ?_
      obtain ⟨b11, h⟩ := h
      refine y_iald C hw (acr_51 SB) xt3 b11 dX8_specific_92 (fun v11 t11 => ?_)
      refine y_cVIp C (As := [.int v11]) (rest := []) ml_X8_444 (kX8_toldAs l G SB S_2 t11 h) (ocr SB) (T := TX8) (N := 60) rfl (by decide) ⟨(Nat.le_of_ble_eq_true rfl), (Nat.le_of_ble_eq_true rfl)⟩ hl.1 rfl rfl (Nat.le_of_ble_eq_true rfl) hw hS dX8_specific_93 (fun v12 x_12 H locs t12 h hw hS => ?_)
      refine lv_goto (tgt := 101) C.1.1 C.1.2.1 dX8_specific_96 (by decide) ?_
      exact y_iret C hw hS t12 h dX8_specific_101
  · have h := h.2 c1
    refine lv_iload_n C.1.1 C.1.2.1 dX8_specific_50 rfl (lv_at hl 4 rfl) ?_
    refine y_if_ne C xt3 dX8_specific_51 (tgt := 63) (by decide) (fun c13 => ?_) (fun c13 => ?_)
    · have h := h.1 c13
      refine y_bipush C dX8_specific_63 ⟨by decide, by decide⟩ (fun v14 t14 => ?_)
      exact y_iret C hw hS t14 h dX8_specific_65
    · have h := h.2 c13
      refine lv_aload_n C.1.1 C.1.2.1 dX8_specific_54 rfl (lv_at hl 1 rfl) ?_
      refine lv_iload C.1.1 C.1.2.1 dX8_specific_55 (lv_at hl 0 rfl) ?_
      refine y_cVIp C (As := [.int sv0]) (rest := []) ml_X8_444 (kX8_toldAs l G SB S st0 h) (ocr SB) (T := TX8) (N := 60) rfl (by decide) ⟨(Nat.le_of_ble_eq_true rfl), (Nat.le_of_ble_eq_true rfl)⟩ hl.1 rfl rfl (Nat.le_of_ble_eq_true rfl) hw hS dX8_specific_57 (fun v15 x_15 H locs t15 h hw hS => ?_)
      refine lv_goto (tgt := 65) C.1.1 C.1.2.1 dX8_specific_60 (by decide) ?_
      exact y_iret C hw hS t15 h dX8_specific_65
set_option maxHeartbeats 4000000 in
set_option maxRecDepth 10000 in
theorem uX8_specific_0 {p : Program} {l : Launch} {e : Env} {s : State} {m : MethodId} {args : Array Value} {below : List Frame} {meth : Method} {c : Code} {G : GG} {SB : St} (C : Cx p s m args meth c G RX8 cX8_specific 5 (some .int)) {S : St} {H : Heap} {locs : List Loc} {ls : Array Slot}  {k : Int → St → Prop} (hw : Wd G ((injR SB) S) H) (hS : va_S (AG G) s.heap H locs) {xv1 : Int32} {x1 : Int} (xt1 : xv1.toInt = x1) {xv2 : Int32} {x2 : Int} (xt2 : xv2.toInt = x2) {xv3 : Int32} {x3 : Int} (xt3 : xv3.toInt = x3) (hl : lv_has ls 5 [(0, .ref (G.2.2 1042)), (1, .int xv1), (2, .int xv2), (3, .int xv3)])  (h : wX8_specific_0 S x1 x2 x3 k) : W p l e (rmF 7 161) s m args below meth c H locs 0 0 (MQ below (QcI G (injR SB) k) args s 0 0 (AG G)) (F0 m 0 ls []) := by
  refine lv_aload_n C.1.1 C.1.2.1 dX8_specific_0 rfl (lv_at hl 0 rfl) ?_
  refine lv_iload_n C.1.1 C.1.2.1 dX8_specific_1 rfl (lv_at hl 1 rfl) ?_
  refine y_cVI C (As := [.int xv1]) (rest := []) ml_X8_371 (kX8_isType l G SB S xt1 h) (ocr SB) (T := TX8) (N := 60) rfl (by decide) ⟨(Nat.le_of_ble_eq_true rfl), (Nat.le_of_ble_eq_true rfl)⟩ hl.1 rfl rfl (Nat.le_of_ble_eq_true rfl) hw hS dX8_specific_2 (fun v1 x_1 S_1 H locs t1 h hw hS => ?_)
  refine y_if_eq C t1 dX8_specific_5 (tgt := 16) (by decide) (fun c2 => ?_) (fun c2 => ?_)
  · have h := h.1 c2
    refine y_bipush C dX8_specific_16 ⟨by decide, by decide⟩ (fun v3 t3 => ?_)
    exact y_iret C hw hS t3 h dX8_specific_18
  · have h := h.2 c2
    refine lv_aload_n C.1.1 C.1.2.1 dX8_specific_8 rfl (lv_at hl 0 rfl) ?_
    refine lv_iload_n C.1.1 C.1.2.1 dX8_specific_9 rfl (lv_at hl 2 rfl) ?_
    refine y_cVI C (As := [.int xv2]) (rest := []) ml_X8_374 (kX8_isMember l G SB S_1 xt2 h) (ocr SB) (T := TX8) (N := 60) rfl (by decide) ⟨(Nat.le_of_ble_eq_true rfl), (Nat.le_of_ble_eq_true rfl)⟩ hl.1 rfl rfl (Nat.le_of_ble_eq_true rfl) hw hS dX8_specific_10 (fun v4 x_4 S_4 H locs t4 h hw hS => ?_)
    refine y_if_ne C t4 dX8_specific_13 (tgt := 19) (by decide) (fun c5 => ?_) (fun c5 => ?_)
    · have h := h.1 c5
      refine lv_aload_n C.1.1 C.1.2.1 dX8_specific_19 rfl (lv_at hl 0 rfl) ?_
      refine y_getA C fl_X8_70 hw (ocr SB) rfl (o := 11) rfl dX8_specific_20 ?_
      refine lv_aload_n C.1.1 C.1.2.1 dX8_specific_23 rfl (lv_at hl 0 rfl) ?_
      refine lv_iload_n C.1.1 C.1.2.1 dX8_specific_24 rfl (lv_at hl 1 rfl) ?_
      refine y_cVIp C (As := [.int xv1]) (rest := [.ref (G.2.2 (1053))]) ml_X8_214 (kX8_t l G SB S_4 xt1 h) (ocr SB) (T := TX8) (N := 60) rfl (by decide) ⟨(Nat.le_of_ble_eq_true rfl), (Nat.le_of_ble_eq_true rfl)⟩ hl.1 rfl rfl (Nat.le_of_ble_eq_true rfl) hw hS dX8_specific_25 (fun v7 x_7 H locs t7 h hw hS => ?_)
      obtain ⟨b8, h⟩ := h
      refine y_iald C hw (acr_20 SB) t7 b8 dX8_specific_28 (fun v8 t8 => ?_)
      refine y_iconst C dX8_specific_29 ⟨by decide, by decide⟩ (fun v9 t9 => ?_)
      refine y_icmp_ne C t8 t9 dX8_specific_30 (tgt := 42) (by decide) (fun c10 => ?_) (fun c10 => ?_)
      · have h := h.1 c10
        refine y_iconst C dX8_specific_42 ⟨by decide, by decide⟩ (fun v11 t11 => ?_)
        exact uX8_specific_43 C hw hS xt1 xt2 xt3 t11 (lv_sub hl [0, 1, 2, 3] rfl)  h
      · have h := h.2 c10
        refine lv_aload_n C.1.1 C.1.2.1 dX8_specific_33 rfl (lv_at hl 0 rfl) ?_
        refine lv_iload_n C.1.1 C.1.2.1 dX8_specific_34 rfl (lv_at hl 1 rfl) ?_
        refine lv_iload_n C.1.1 C.1.2.1 dX8_specific_35 rfl (lv_at hl 2 rfl) ?_
        refine y_cVIp C (As := [.int xv1, .int xv2]) (rest := []) ml_X8_392 (kX8_methodIn l G SB S_4 xt1 xt2 h) (ocr SB) (T := TX8) (N := 60) rfl (by decide) ⟨(Nat.le_of_ble_eq_true rfl), (Nat.le_of_ble_eq_true rfl)⟩ hl.1 rfl rfl (Nat.le_of_ble_eq_true rfl) hw hS dX8_specific_36 (fun v12 x_12 H locs t12 h hw hS => ?_)
        refine lv_goto (tgt := 43) C.1.1 C.1.2.1 dX8_specific_39 (by decide) ?_
        exact uX8_specific_43 C hw hS xt1 xt2 xt3 t12 (lv_sub hl [0, 1, 2, 3] rfl)  h
    · have h := h.2 c5
      refine y_bipush C dX8_specific_16 ⟨by decide, by decide⟩ (fun v13 t13 => ?_)
      exact y_iret C hw hS t13 h dX8_specific_18
theorem kX8_specific (l : Launch) (G : GG) (SB S : St) {xv1 : Int32} {x1 : Int} (xt1 : xv1.toInt = x1) {xv2 : Int32} {x2 : Int} (xt2 : xv2.toInt = x2) {xv3 : Int32} {x3 : Int} (xt3 : xv3.toInt = x3) {k : Int → St → Prop} (h : wX8_specific S x1 x2 x3 k) : CnI l yX8_specific cX8_specific 5 (some .int) 7 161 G (injR SB) [.ref (G.2.2 1042), .int xv1, .int xv2, .int xv3] S k :=
  cn_body (by decide +kernel) (Nat.le_of_ble_eq_true rfl) (fun p e s m args below meth c ls C hw hl => uX8_specific_0 C hw va_S.rf xt1 xt2 xt3 (lv_sub hl [0, 1, 2, 3] rfl) h)
set_option maxHeartbeats 4000000 in
set_option maxRecDepth 10000 in
theorem uX8_may_0 {p : Program} {l : Launch} {e : Env} {s : State} {m : MethodId} {args : Array Value} {below : List Frame} {meth : Method} {c : Code} {G : GG} {SB : St} (C : Cx p s m args meth c G RX8 cX8_may 6 (some .int)) {S : St} {H : Heap} {locs : List Loc} {ls : Array Slot}  {k : Int → St → Prop} (hw : Wd G ((injR SB) S) H) (hS : va_S (AG G) s.heap H locs) {xv1 : Int32} {x1 : Int} (xt1 : xv1.toInt = x1) {xv2 : Int32} {x2 : Int} (xt2 : xv2.toInt = x2) {xv3 : Int32} {x3 : Int} (xt3 : xv3.toInt = x3) {xv4 : Int32} {x4 : Int} (xt4 : xv4.toInt = x4) (hl : lv_has ls 6 [(0, .ref (G.2.2 1042)), (1, .int xv1), (2, .int xv2), (3, .int xv3), (4, .int xv4)])  (h : wX8_may_0 S x1 x2 x3 x4 k) : W p l e (rmF 8 185) s m args below meth c H locs 0 0 (MQ below (QcI G (injR SB) k) args s 0 0 (AG G)) (F0 m 0 ls []) := by
  refine lv_aload_n C.1.1 C.1.2.1 dX8_may_0 rfl (lv_at hl 0 rfl) ?_
  refine lv_iload_n C.1.1 C.1.2.1 dX8_may_1 rfl (lv_at hl 1 rfl) ?_
  refine y_cVI C (As := [.int xv1]) (rest := []) ml_X8_371 (kX8_isType l G SB S xt1 h) (ocr SB) (T := TX8) (N := 60) rfl (by decide) ⟨(Nat.le_of_ble_eq_true rfl), (Nat.le_of_ble_eq_true rfl)⟩ hl.1 rfl rfl (Nat.le_of_ble_eq_true rfl) hw hS dX8_may_2 (fun v1 x_1 S_1 H locs t1 h hw hS => ?_)
  refine y_if_eq C t1 dX8_may_5 (tgt := 33) (by decide) (fun c2 => ?_) (fun c2 => ?_)
  · have h := h.1 c2
    refine y_bipush C dX8_may_33 ⟨by decide, by decide⟩ (fun v3 t3 => ?_)
    exact y_iret C hw hS t3 h dX8_may_35
  · have h := h.2 c2
    refine lv_aload_n C.1.1 C.1.2.1 dX8_may_8 rfl (lv_at hl 0 rfl) ?_
    refine lv_iload_n C.1.1 C.1.2.1 dX8_may_9 rfl (lv_at hl 2 rfl) ?_
    refine y_cVI C (As := [.int xv2]) (rest := []) ml_X8_371 (kX8_isType l G SB S_1 xt2 h) (ocr SB) (T := TX8) (N := 60) rfl (by decide) ⟨(Nat.le_of_ble_eq_true rfl), (Nat.le_of_ble_eq_true rfl)⟩ hl.1 rfl rfl (Nat.le_of_ble_eq_true rfl) hw hS dX8_may_10 (fun v4 x_4 S_4 H locs t4 h hw hS => ?_)
    refine y_if_eq C t4 dX8_may_13 (tgt := 33) (by decide) (fun c5 => ?_) (fun c5 => ?_)
    · have h := h.1 c5
      refine y_bipush C dX8_may_33 ⟨by decide, by decide⟩ (fun v6 t6 => ?_)
      exact y_iret C hw hS t6 h dX8_may_35
    · have h := h.2 c5
      refine lv_aload_n C.1.1 C.1.2.1 dX8_may_16 rfl (lv_at hl 0 rfl) ?_
      refine lv_iload_n C.1.1 C.1.2.1 dX8_may_17 rfl (lv_at hl 3 rfl) ?_
      refine y_cVI C (As := [.int xv3]) (rest := []) ml_X8_374 (kX8_isMember l G SB S_4 xt3 h) (ocr SB) (T := TX8) (N := 60) rfl (by decide) ⟨(Nat.le_of_ble_eq_true rfl), (Nat.le_of_ble_eq_true rfl)⟩ hl.1 rfl rfl (Nat.le_of_ble_eq_true rfl) hw hS dX8_may_18 (fun v7 x_7 S_7 H locs t7 h hw hS => ?_)
      refine y_if_eq C t7 dX8_may_21 (tgt := 33) (by decide) (fun c8 => ?_) (fun c8 => ?_)
      · have h := h.1 c8
        refine y_bipush C dX8_may_33 ⟨by decide, by decide⟩ (fun v9 t9 => ?_)
        exact y_iret C hw hS t9 h dX8_may_35
      · have h := h.2 c8
        refine lv_aload_n C.1.1 C.1.2.1 dX8_may_24 rfl (lv_at hl 0 rfl) ?_
        refine lv_iload C.1.1 C.1.2.1 dX8_may_25 (lv_at hl 4 rfl) ?_
        refine y_cVI C (As := [.int xv4]) (rest := []) ml_X8_371 (kX8_isType l G SB S_7 xt4 h) (ocr SB) (T := TX8) (N := 60) rfl (by decide) ⟨(Nat.le_of_ble_eq_true rfl), (Nat.le_of_ble_eq_true rfl)⟩ hl.1 rfl rfl (Nat.le_of_ble_eq_true rfl) hw hS dX8_may_27 (fun v10 x_10 S_10 H locs t10 h hw hS => ?_)
        refine y_if_ne C t10 dX8_may_30 (tgt := 36) (by decide) (fun c11 => ?_) (fun c11 => ?_)
        · have h := h.1 c11
          refine lv_aload_n C.1.1 C.1.2.1 dX8_may_36 rfl (lv_at hl 0 rfl) ?_
          refine lv_iload_n C.1.1 C.1.2.1 dX8_may_37 rfl (lv_at hl 2 rfl) ?_
          refine lv_iload_n C.1.1 C.1.2.1 dX8_may_38 rfl (lv_at hl 3 rfl) ?_
          refine y_cVI C (As := [.int xv2, .int xv3]) (rest := []) ml_X8_434 (kX8_lookedUp l G SB S_10 xt2 xt3 h) (ocr SB) (T := TX8) (N := 60) rfl (by decide) ⟨(Nat.le_of_ble_eq_true rfl), (Nat.le_of_ble_eq_true rfl)⟩ hl.1 rfl rfl (Nat.le_of_ble_eq_true rfl) hw hS dX8_may_39 (fun v12 x_12 S_12 H locs t12 h hw hS => ?_)
          refine lv_istore (lv' := [(5, .int v12), (0, .ref (G.2.2 1042)), (1, .int xv1), (2, .int xv2), (3, .int xv3), (4, .int xv4)]) C.1.1 C.1.2.1 dX8_may_42 hl (by decide) rfl (fun ls hl => ?_)
          refine lv_iload C.1.1 C.1.2.1 dX8_may_44 (lv_at hl 0 rfl) ?_
          refine y_if_ge C t12 dX8_may_46 (tgt := 53) (by decide) (fun c13 => ?_) (fun c13 => ?_)
          · have h := h.1 c13
            refine lv_aload_n C.1.1 C.1.2.1 dX8_may_53 rfl (lv_at hl 1 rfl) ?_
            refine lv_iload_n C.1.1 C.1.2.1 dX8_may_54 rfl (lv_at hl 2 rfl) ?_
            refine lv_iload_n C.1.1 C.1.2.1 dX8_may_55 rfl (lv_at hl 3 rfl) ?_
            refine lv_iload C.1.1 C.1.2.1 dX8_may_56 (lv_at hl 0 rfl) ?_
            refine lv_iload C.1.1 C.1.2.1 dX8_may_58 (lv_at hl 5 rfl) ?_
            refine y_cVIp C (As := [.int xv1, .int xv2, .int v12, .int xv4]) (rest := []) ml_X8_437 (kX8_mayHave l G SB S_12 xt1 xt2 t12 xt4 h) (ocr SB) (T := TX8) (N := 60) rfl (by decide) ⟨(Nat.le_of_ble_eq_true rfl), (Nat.le_of_ble_eq_true rfl)⟩ hl.1 rfl rfl (Nat.le_of_ble_eq_true rfl) hw hS dX8_may_60 (fun v14 x_14 H locs t14 h hw hS => ?_)
            refine y_if_eq C t14 dX8_may_63 (tgt := 70) (by decide) (fun c15 => ?_) (fun c15 => ?_)
            · have h := h.1 c15
              refine y_iconst C dX8_may_70 ⟨by decide, by decide⟩ (fun v16 t16 => ?_)
              exact y_iret C hw hS t16 h dX8_may_71
            · have h := h.2 c15
              refine y_iconst C dX8_may_66 ⟨by decide, by decide⟩ (fun v17 t17 => ?_)
              refine lv_goto (tgt := 71) C.1.1 C.1.2.1 dX8_may_67 (by decide) ?_
              exact y_iret C hw hS t17 h dX8_may_71
          · have h := h.2 c13
            refine y_iconst C dX8_may_49 ⟨by decide, by decide⟩ (fun v18 t18 => ?_)
            refine lv_goto (tgt := 71) C.1.1 C.1.2.1 dX8_may_50 (by decide) ?_
            exact y_iret C hw hS t18 h dX8_may_71
        · have h := h.2 c11
          refine y_bipush C dX8_may_33 ⟨by decide, by decide⟩ (fun v19 t19 => ?_)
          exact y_iret C hw hS t19 h dX8_may_35
theorem kX8_may (l : Launch) (G : GG) (SB S : St) {xv1 : Int32} {x1 : Int} (xt1 : xv1.toInt = x1) {xv2 : Int32} {x2 : Int} (xt2 : xv2.toInt = x2) {xv3 : Int32} {x3 : Int} (xt3 : xv3.toInt = x3) {xv4 : Int32} {x4 : Int} (xt4 : xv4.toInt = x4) {k : Int → St → Prop} (h : wX8_may S x1 x2 x3 x4 k) : CnI l yX8_may cX8_may 6 (some .int) 8 185 G (injR SB) [.ref (G.2.2 1042), .int xv1, .int xv2, .int xv3, .int xv4] S k :=
  cn_body (by decide +kernel) (Nat.le_of_ble_eq_true rfl) (fun p e s m args below meth c ls C hw hl => uX8_may_0 C hw va_S.rf xt1 xt2 xt3 xt4 (lv_sub hl [0, 1, 2, 3, 4] rfl) h)
set_option maxHeartbeats 4000000 in
set_option maxRecDepth 10000 in
theorem uX8_rule_42 {p : Program} {l : Launch} {e : Env} {s : State} {m : MethodId} {args : Array Value} {below : List Frame} {meth : Method} {c : Code} {G : GG} {SB : St} (C : Cx p s m args meth c G RX8 cX8_rule 7 (some .int)) {S : St} {H : Heap} {locs : List Loc} {ls : Array Slot}  {k : Int → St → Prop} (hw : Wd G ((injR SB) S) H) (hS : va_S (AG G) s.heap H locs) {xv1 : Int32} {x1 : Int} (xt1 : xv1.toInt = x1) {xv2 : Int32} {x2 : Int} (xt2 : xv2.toInt = x2) {xv3 : Int32} {x3 : Int} (xt3 : xv3.toInt = x3) {xv4 : Int32} {x4 : Int} (xt4 : xv4.toInt = x4) {xv5 : Int32} {x5 : Int} (xt5 : xv5.toInt = x5) (hl : lv_has ls 7 [(0, .ref (G.2.2 1042)), (1, .int xv1), (2, .int xv2), (3, .int xv3), (4, .int xv4), (5, .int xv5)])  (h : wX8_rule_42 S x1 x2 x3 x4 x5 k) : W p l e (rmF 10 240) s m args below meth c H locs 0 0 (MQ below (QcI G (injR SB) k) args s 0 0 (AG G)) (F0 m 42 ls []) := by
  refine lv_iload_n C.1.1 C.1.2.1 dX8_rule_42 rfl (lv_at hl 1 rfl) ?_
  refine y_iconst C dX8_rule_43 ⟨by decide, by decide⟩ (fun v1 t1 => ?_)
  refine y_iconst C dX8_rule_44 ⟨by decide, by decide⟩ (fun v2 t2 => ?_)
  refine y_cSIp C (As := [.int xv1, .int v1, .int v2]) (rest := []) ms_X8_165 (kX8_in l G SB S xt1 t1 t2 h) ⟨(Nat.le_of_ble_eq_true rfl), (Nat.le_of_ble_eq_true rfl)⟩ hl.1 rfl rfl (Nat.le_of_ble_eq_true rfl) hw hS dX8_rule_45 (fun v3 x_3 H locs t3 h hw hS => ?_)
  refine y_if_ne C t3 dX8_rule_48 (tgt := 54) (by decide) (fun c4 => ?_) (fun c4 => ?_)
  · have h := h.1 c4
    refine lv_aload_n C.1.1 C.1.2.1 dX8_rule_54 rfl (lv_at hl 0 rfl) ?_
    refine lv_iload_n C.1.1 C.1.2.1 dX8_rule_55 rfl (lv_at hl 1 rfl) ?_
    refine lv_iload_n C.1.1 C.1.2.1 dX8_rule_56 rfl (lv_at hl 2 rfl) ?_
    refine lv_iload_n C.1.1 C.1.2.1 dX8_rule_57 rfl (lv_at hl 3 rfl) ?_
    refine lv_iload C.1.1 C.1.2.1 dX8_rule_58 (lv_at hl 4 rfl) ?_
    refine lv_iload C.1.1 C.1.2.1 dX8_rule_60 (lv_at hl 5 rfl) ?_
    refine y_cVI C (As := [.int xv1, .int xv2, .int xv3, .int xv4, .int xv5]) (rest := []) ml_X8_447 (kX8_ruled l G SB S xt1 xt2 xt3 xt4 xt5 h) (ocr SB) (T := TX8) (N := 60) rfl (by decide) ⟨(Nat.le_of_ble_eq_true rfl), (Nat.le_of_ble_eq_true rfl)⟩ hl.1 rfl rfl (Nat.le_of_ble_eq_true rfl) hw hS dX8_rule_62 (fun v5 x_5 S_5 H locs t5 h hw hS => ?_)
    refine lv_istore (lv' := [(6, .int v5), (0, .ref (G.2.2 1042)), (1, .int xv1), (2, .int xv2), (3, .int xv3), (4, .int xv4), (5, .int xv5)]) C.1.1 C.1.2.1 dX8_rule_65 hl (by decide) rfl (fun ls hl => ?_)
    refine lv_aload_n C.1.1 C.1.2.1 dX8_rule_67 rfl (lv_at hl 1 rfl) ?_
    refine lv_aload_n C.1.1 C.1.2.1 dX8_rule_68 rfl (lv_at hl 1 rfl) ?_
    refine y_getI C fl_X8_428 hw (ocr SB) rfl dX8_rule_69 (fun v6 t6 => ?_)
    obtain ⟨S_7, e7⟩ : ∃ z : St, z = up S_5 0 59 (S_5 0 58) := ⟨_, rfl⟩
    have h := h S_7 e7
    refine y_putI C fl_X8_451 fp_8_59 hw hS (ocr SB) rfl t6 dX8_rule_72 (fun H locs hw hS => ?_)
    have hw : Wd G ((injR SB) S_7) H := by rw [e7]; exact hw
    refine lv_iload C.1.1 C.1.2.1 dX8_rule_75 (lv_at hl 0 rfl) ?_
    exact y_iret C hw hS t5 h dX8_rule_77
  · have h := h.2 c4
    refine y_bipush C dX8_rule_51 ⟨by decide, by decide⟩ (fun v8 t8 => ?_)
    exact y_iret C hw hS t8 h dX8_rule_53
set_option maxHeartbeats 4000000 in
set_option maxRecDepth 10000 in
theorem uX8_rule_0 {p : Program} {l : Launch} {e : Env} {s : State} {m : MethodId} {args : Array Value} {below : List Frame} {meth : Method} {c : Code} {G : GG} {SB : St} (C : Cx p s m args meth c G RX8 cX8_rule 7 (some .int)) {S : St} {H : Heap} {locs : List Loc} {ls : Array Slot}  {k : Int → St → Prop} (hw : Wd G ((injR SB) S) H) (hS : va_S (AG G) s.heap H locs) {xv1 : Int32} {x1 : Int} (xt1 : xv1.toInt = x1) {xv2 : Int32} {x2 : Int} (xt2 : xv2.toInt = x2) {xv3 : Int32} {x3 : Int} (xt3 : xv3.toInt = x3) {xv4 : Int32} {x4 : Int} (xt4 : xv4.toInt = x4) {xv5 : Int32} {x5 : Int} (xt5 : xv5.toInt = x5) (hl : lv_has ls 7 [(0, .ref (G.2.2 1042)), (1, .int xv1), (2, .int xv2), (3, .int xv3), (4, .int xv4), (5, .int xv5)])  (h : wX8_rule_0 S x1 x2 x3 x4 x5 k) : W p l e (rmF 10 240) s m args below meth c H locs 0 0 (MQ below (QcI G (injR SB) k) args s 0 0 (AG G)) (F0 m 0 ls []) := by
  refine lv_aload_n C.1.1 C.1.2.1 dX8_rule_0 rfl (lv_at hl 0 rfl) ?_
  refine lv_iload_n C.1.1 C.1.2.1 dX8_rule_1 rfl (lv_at hl 2 rfl) ?_
  refine y_cVI C (As := [.int xv2]) (rest := []) ml_X8_371 (kX8_isType l G SB S xt2 h) (ocr SB) (T := TX8) (N := 60) rfl (by decide) ⟨(Nat.le_of_ble_eq_true rfl), (Nat.le_of_ble_eq_true rfl)⟩ hl.1 rfl rfl (Nat.le_of_ble_eq_true rfl) hw hS dX8_rule_2 (fun v1 x_1 S_1 H locs t1 h hw hS => ?_)
  refine y_if_eq C t1 dX8_rule_5 (tgt := 39) (by decide) (fun c2 => ?_) (fun c2 => ?_)
  · have h := h.1 c2
    refine y_bipush C dX8_rule_39 ⟨by decide, by decide⟩ (fun v3 t3 => ?_)
    exact y_iret C hw hS t3 h dX8_rule_41
  · have h := h.2 c2
    refine lv_aload_n C.1.1 C.1.2.1 dX8_rule_8 rfl (lv_at hl 0 rfl) ?_
    refine lv_iload_n C.1.1 C.1.2.1 dX8_rule_9 rfl (lv_at hl 3 rfl) ?_
    refine y_cVI C (As := [.int xv3]) (rest := []) ml_X8_371 (kX8_isType l G SB S_1 xt3 h) (ocr SB) (T := TX8) (N := 60) rfl (by decide) ⟨(Nat.le_of_ble_eq_true rfl), (Nat.le_of_ble_eq_true rfl)⟩ hl.1 rfl rfl (Nat.le_of_ble_eq_true rfl) hw hS dX8_rule_10 (fun v4 x_4 S_4 H locs t4 h hw hS => ?_)
    refine y_if_eq C t4 dX8_rule_13 (tgt := 39) (by decide) (fun c5 => ?_) (fun c5 => ?_)
    · have h := h.1 c5
      refine y_bipush C dX8_rule_39 ⟨by decide, by decide⟩ (fun v6 t6 => ?_)
      exact y_iret C hw hS t6 h dX8_rule_41
    · have h := h.2 c5
      refine lv_aload_n C.1.1 C.1.2.1 dX8_rule_16 rfl (lv_at hl 0 rfl) ?_
      refine lv_iload C.1.1 C.1.2.1 dX8_rule_17 (lv_at hl 4 rfl) ?_
      refine y_cVI C (As := [.int xv4]) (rest := []) ml_X8_374 (kX8_isMember l G SB S_4 xt4 h) (ocr SB) (T := TX8) (N := 60) rfl (by decide) ⟨(Nat.le_of_ble_eq_true rfl), (Nat.le_of_ble_eq_true rfl)⟩ hl.1 rfl rfl (Nat.le_of_ble_eq_true rfl) hw hS dX8_rule_19 (fun v7 x_7 S_7 H locs t7 h hw hS => ?_)
      refine y_if_eq C t7 dX8_rule_22 (tgt := 39) (by decide) (fun c8 => ?_) (fun c8 => ?_)
      · have h := h.1 c8
        refine y_bipush C dX8_rule_39 ⟨by decide, by decide⟩ (fun v9 t9 => ?_)
        exact y_iret C hw hS t9 h dX8_rule_41
      · have h := h.2 c8
        refine lv_iload_n C.1.1 C.1.2.1 dX8_rule_25 rfl (lv_at hl 1 rfl) ?_
        refine y_iconst C dX8_rule_26 ⟨by decide, by decide⟩ (fun v10 t10 => ?_)
        refine y_icmp_eq C xt1 t10 dX8_rule_27 (tgt := 42) (by decide) (fun c11 => ?_) (fun c11 => ?_)
        · have h := h.1 c11
          exact uX8_rule_42 C hw hS xt1 xt2 xt3 xt4 xt5 (lv_sub hl [0, 1, 2, 3, 4, 5] rfl)  h
        · have h := h.2 c11
          refine lv_aload_n C.1.1 C.1.2.1 dX8_rule_30 rfl (lv_at hl 0 rfl) ?_
          refine lv_iload C.1.1 C.1.2.1 dX8_rule_31 (lv_at hl 5 rfl) ?_
          refine y_cVI C (As := [.int xv5]) (rest := []) ml_X8_371 (kX8_isType l G SB S_7 xt5 h) (ocr SB) (T := TX8) (N := 60) rfl (by decide) ⟨(Nat.le_of_ble_eq_true rfl), (Nat.le_of_ble_eq_true rfl)⟩ hl.1 rfl rfl (Nat.le_of_ble_eq_true rfl) hw hS dX8_rule_33 (fun v12 x_12 S_12 H locs t12 h hw hS => ?_)
          refine y_if_ne C t12 dX8_rule_36 (tgt := 42) (by decide) (fun c13 => ?_) (fun c13 => ?_)
          · have h := h.1 c13
            exact uX8_rule_42 C hw hS xt1 xt2 xt3 xt4 xt5 (lv_sub hl [0, 1, 2, 3, 4, 5] rfl)  h
          · have h := h.2 c13
            refine y_bipush C dX8_rule_39 ⟨by decide, by decide⟩ (fun v14 t14 => ?_)
            exact y_iret C hw hS t14 h dX8_rule_41
theorem kX8_rule (l : Launch) (G : GG) (SB S : St) {xv1 : Int32} {x1 : Int} (xt1 : xv1.toInt = x1) {xv2 : Int32} {x2 : Int} (xt2 : xv2.toInt = x2) {xv3 : Int32} {x3 : Int} (xt3 : xv3.toInt = x3) {xv4 : Int32} {x4 : Int} (xt4 : xv4.toInt = x4) {xv5 : Int32} {x5 : Int} (xt5 : xv5.toInt = x5) {k : Int → St → Prop} (h : wX8_rule S x1 x2 x3 x4 x5 k) : CnI l yX8_rule cX8_rule 7 (some .int) 10 240 G (injR SB) [.ref (G.2.2 1042), .int xv1, .int xv2, .int xv3, .int xv4, .int xv5] S k :=
  cn_body (by decide +kernel) (Nat.le_of_ble_eq_true rfl) (fun p e s m args below meth c ls C hw hl => uX8_rule_0 C hw va_S.rf xt1 xt2 xt3 xt4 xt5 (lv_sub hl [0, 1, 2, 3, 4, 5] rfl) h)
set_option maxHeartbeats 4000000 in
set_option maxRecDepth 10000 in
theorem uX8_hops_0 {p : Program} {l : Launch} {e : Env} {s : State} {m : MethodId} {args : Array Value} {below : List Frame} {meth : Method} {c : Code} {G : GG} {SB : St} (C : Cx p s m args meth c G RX8 cX8_hops 1 (some .int)) {S : St} {H : Heap} {locs : List Loc} {ls : Array Slot}  {k : Int → Prop} (hw : Wd G ((injR SB) S) H) (hS : va_S (AG G) s.heap H locs)  (hl : lv_has ls 1 [(0, .ref (G.2.2 1042))])  (h : wX8_hops_0 S k) : W p l e (rmF 0 0) s m args below meth c H locs 0 0 (MQ below (QcI G (injR SB) (fun r u => k r ∧ u = S)) args s 0 0 (AG G)) (F0 m 0 ls []) := by
  refine lv_aload_n C.1.1 C.1.2.1 dX8_hops_0 rfl (lv_at hl 0 rfl) ?_
  refine y_getI C fl_X8_451 hw (ocr SB) rfl dX8_hops_1 (fun v1 t1 => ?_)
  exact y_iret C hw hS t1 ⟨h, rfl⟩ dX8_hops_4
theorem kX8_hops (l : Launch) (G : GG) (SB S : St)  {k : Int → Prop} (h : wX8_hops S k) : CnI l yX8_hops cX8_hops 1 (some .int) 0 0 G (injR SB) [.ref (G.2.2 1042)] S (fun r u => k r ∧ u = S) :=
  cn_body (by decide +kernel) (Nat.le_of_ble_eq_true rfl) (fun p e s m args below meth c ls C hw hl => uX8_hops_0 C hw va_S.rf  (lv_sub hl [0] rfl) h)
set_option maxHeartbeats 4000000 in
set_option maxRecDepth 10000 in
theorem uX8_outcomes_120 {p : Program} {l : Launch} {e : Env} {s : State} {m : MethodId} {args : Array Value} {below : List Frame} {meth : Method} {c : Code} {G : GG} {SB : St} (C : Cx p s m args meth c G RX8 cX8_outcomes 9 (some .int)) {S : St} {H : Heap} {locs : List Loc} {ls : Array Slot} {P6 : Int → Int → St → Prop} {k : Int → St → Prop} (hw : Wd G ((injR SB) S) H) (hS : va_S (AG G) s.heap H locs) {xv1 : Int32} {x1 : Int} (xt1 : xv1.toInt = x1) {xv2 : Int32} {x2 : Int} (xt2 : xv2.toInt = x2) {xv3 : Int32} {x3 : Int} (xt3 : xv3.toInt = x3) {xv5 : Int32} {x5 : Int} (xt5 : xv5.toInt = x5) {sv0 : Int32} {s0 : Int} (st0 : sv0.toInt = s0) (hl : lv_has ls 9 [(0, .ref (G.2.2 1042)), (1, .int xv1), (2, .int xv2), (3, .int xv3), (5, .int xv5)]) (hP6 : ∀ {H : Heap} {locs : List Loc} {ls : Array Slot} {Sy : St} {yv4 : Int32} {y4 : Int} {yv5 : Int32} {y5 : Int}, yv4.toInt = y4 → yv5.toInt = y5 → Wd G ((injR SB) Sy) H → va_S (AG G) s.heap H locs → lv_has ls 9 [(0, .ref (G.2.2 1042)), (1, .int xv1), (2, .int xv2), (3, .int xv3), (4, .int yv4), (5, .int yv5)] → P6 y4 y5 Sy → W p l e (rmF 10 240) s m args below meth c H locs 0 0 (MQ below (QcI G (injR SB) k) args s 0 0 (AG G)) (F0 m 6 ls [])) (h : wX8_outcomes_120 S x1 x2 x3 x5 s0 P6 k) : W p l e (rmF 10 240) s m args below meth c H locs 0 0 (MQ below (QcI G (injR SB) k) args s 0 0 (AG G)) (F0 m 120 ls [.int sv0]) := by
  refine y_iconst C dX8_outcomes_120 ⟨by decide, by decide⟩ (fun v1 t1 => ?_)
  refine lv_goto (tgt := 125) C.1.1 C.1.2.1 dX8_outcomes_121 (by decide) ?_
  refine y_iadd C st0 t1 dX8_outcomes_125 (fun v2 t2 => ?_)
  obtain ⟨x_3, e3⟩ : ∃ z : Int, z = w32 (s0 + 1) := ⟨_, rfl⟩
  have h := h x_3 e3
  have t3 := t2.trans e3.symm
  refine lv_istore (lv' := [(4, .int v2), (0, .ref (G.2.2 1042)), (1, .int xv1), (2, .int xv2), (3, .int xv3), (5, .int xv5)]) C.1.1 C.1.2.1 dX8_outcomes_126 hl (by decide) rfl (fun ls hl => ?_)
  obtain ⟨x_4, e4⟩ : ∃ z : Int, z = w32 (x5 + 1) := ⟨_, rfl⟩
  have h := h x_4 e4
  obtain ⟨v4, t4, g4⟩ : ∃ z : Int32, z.toInt = x_4 ∧ xv5 + Int32.ofInt 1 = z := ⟨_, (ti_inc xt5 ⟨by decide, by decide⟩).trans e4.symm, rfl⟩
  refine lv_iinc (v := v4) (lv' := [(5, .int v4), (4, .int v2), (0, .ref (G.2.2 1042)), (1, .int xv1), (2, .int xv2), (3, .int xv3)]) C.1.1 C.1.2.1 dX8_outcomes_128 hl (k := 5) rfl g4 (by decide) rfl (fun ls hl => ?_)
  refine lv_goto (tgt := 6) C.1.1 C.1.2.1 dX8_outcomes_131 (by decide) ?_
  exact hP6 t3 t4 hw hS (lv_sub hl [2, 3, 4, 5, 1, 0] rfl) h
set_option maxHeartbeats 4000000 in
set_option maxRecDepth 10000 in
theorem uX8_outcomes_124 {p : Program} {l : Launch} {e : Env} {s : State} {m : MethodId} {args : Array Value} {below : List Frame} {meth : Method} {c : Code} {G : GG} {SB : St} (C : Cx p s m args meth c G RX8 cX8_outcomes 9 (some .int)) {S : St} {H : Heap} {locs : List Loc} {ls : Array Slot} {P6 : Int → Int → St → Prop} {k : Int → St → Prop} (hw : Wd G ((injR SB) S) H) (hS : va_S (AG G) s.heap H locs) {xv1 : Int32} {x1 : Int} (xt1 : xv1.toInt = x1) {xv2 : Int32} {x2 : Int} (xt2 : xv2.toInt = x2) {xv3 : Int32} {x3 : Int} (xt3 : xv3.toInt = x3) {xv5 : Int32} {x5 : Int} (xt5 : xv5.toInt = x5) {sv0 : Int32} {s0 : Int} (st0 : sv0.toInt = s0) (hl : lv_has ls 9 [(0, .ref (G.2.2 1042)), (1, .int xv1), (2, .int xv2), (3, .int xv3), (5, .int xv5)]) (hP6 : ∀ {H : Heap} {locs : List Loc} {ls : Array Slot} {Sy : St} {yv4 : Int32} {y4 : Int} {yv5 : Int32} {y5 : Int}, yv4.toInt = y4 → yv5.toInt = y5 → Wd G ((injR SB) Sy) H → va_S (AG G) s.heap H locs → lv_has ls 9 [(0, .ref (G.2.2 1042)), (1, .int xv1), (2, .int xv2), (3, .int xv3), (4, .int yv4), (5, .int yv5)] → P6 y4 y5 Sy → W p l e (rmF 10 240) s m args below meth c H locs 0 0 (MQ below (QcI G (injR SB) k) args s 0 0 (AG G)) (F0 m 6 ls [])) (h : wX8_outcomes_124 S x1 x2 x3 x5 s0 P6 k) : W p l e (rmF 10 240) s m args below meth c H locs 0 0 (MQ below (QcI G (injR SB) k) args s 0 0 (AG G)) (F0 m 124 ls [.int sv0]) := by
  refine y_iconst C dX8_outcomes_124 ⟨by decide, by decide⟩ (fun v1 t1 => ?_)
  refine y_iadd C st0 t1 dX8_outcomes_125 (fun v2 t2 => ?_)
  obtain ⟨x_3, e3⟩ : ∃ z : Int, z = w32 (s0 + 0) := ⟨_, rfl⟩
  have h := h x_3 e3
  have t3 := t2.trans e3.symm
  refine lv_istore (lv' := [(4, .int v2), (0, .ref (G.2.2 1042)), (1, .int xv1), (2, .int xv2), (3, .int xv3), (5, .int xv5)]) C.1.1 C.1.2.1 dX8_outcomes_126 hl (by decide) rfl (fun ls hl => ?_)
  obtain ⟨x_4, e4⟩ : ∃ z : Int, z = w32 (x5 + 1) := ⟨_, rfl⟩
  have h := h x_4 e4
  obtain ⟨v4, t4, g4⟩ : ∃ z : Int32, z.toInt = x_4 ∧ xv5 + Int32.ofInt 1 = z := ⟨_, (ti_inc xt5 ⟨by decide, by decide⟩).trans e4.symm, rfl⟩
  refine lv_iinc (v := v4) (lv' := [(5, .int v4), (4, .int v2), (0, .ref (G.2.2 1042)), (1, .int xv1), (2, .int xv2), (3, .int xv3)]) C.1.1 C.1.2.1 dX8_outcomes_128 hl (k := 5) rfl g4 (by decide) rfl (fun ls hl => ?_)
  refine lv_goto (tgt := 6) C.1.1 C.1.2.1 dX8_outcomes_131 (by decide) ?_
  exact hP6 t3 t4 hw hS (lv_sub hl [2, 3, 4, 5, 1, 0] rfl) h
set_option maxHeartbeats 4000000 in
set_option maxRecDepth 10000 in
theorem uX8_outcomes_86 {p : Program} {l : Launch} {e : Env} {s : State} {m : MethodId} {args : Array Value} {below : List Frame} {meth : Method} {c : Code} {G : GG} {SB : St} (C : Cx p s m args meth c G RX8 cX8_outcomes 9 (some .int)) {S : St} {H : Heap} {locs : List Loc} {ls : Array Slot} {P6 : Int → Int → St → Prop} {k : Int → St → Prop} (hw : Wd G ((injR SB) S) H) (hS : va_S (AG G) s.heap H locs) {xv1 : Int32} {x1 : Int} (xt1 : xv1.toInt = x1) {xv2 : Int32} {x2 : Int} (xt2 : xv2.toInt = x2) {xv3 : Int32} {x3 : Int} (xt3 : xv3.toInt = x3) {xv4 : Int32} {x4 : Int} (xt4 : xv4.toInt = x4) {xv5 : Int32} {x5 : Int} (xt5 : xv5.toInt = x5) {xv6 : Int32} {x6 : Int} (xt6 : xv6.toInt = x6) {sv0 : Int32} {s0 : Int} (st0 : sv0.toInt = s0) (hl : lv_has ls 9 [(0, .ref (G.2.2 1042)), (1, .int xv1), (2, .int xv2), (3, .int xv3), (4, .int xv4), (5, .int xv5), (6, .int xv6)]) (hP6 : ∀ {H : Heap} {locs : List Loc} {ls : Array Slot} {Sy : St} {yv4 : Int32} {y4 : Int} {yv5 : Int32} {y5 : Int}, yv4.toInt = y4 → yv5.toInt = y5 → Wd G ((injR SB) Sy) H → va_S (AG G) s.heap H locs → lv_has ls 9 [(0, .ref (G.2.2 1042)), (1, .int xv1), (2, .int xv2), (3, .int xv3), (4, .int yv4), (5, .int yv5)] → P6 y4 y5 Sy → W p l e (rmF 10 240) s m args below meth c H locs 0 0 (MQ below (QcI G (injR SB) k) args s 0 0 (AG G)) (F0 m 6 ls [])) (h : wX8_outcomes_86 S x1 x2 x3 x4 x5 x6 s0 P6 k) : W p l e (rmF 10 240) s m args below meth c H locs 0 0 (MQ below (QcI G (injR SB) k) args s 0 0 (AG G)) (F0 m 86 ls [.int sv0]) := by
  refine lv_istore (lv' := [(7, .int sv0), (0, .ref (G.2.2 1042)), (1, .int xv1), (2, .int xv2), (3, .int xv3), (4, .int xv4), (5, .int xv5), (6, .int xv6)]) C.1.1 C.1.2.1 dX8_outcomes_86 hl (by decide) rfl (fun ls hl => ?_)
  refine lv_aload_n C.1.1 C.1.2.1 dX8_outcomes_88 rfl (lv_at hl 1 rfl) ?_
  refine lv_iload C.1.1 C.1.2.1 dX8_outcomes_89 (lv_at hl 0 rfl) ?_
  refine lv_iload C.1.1 C.1.2.1 dX8_outcomes_91 (lv_at hl 7 rfl) ?_
  refine lv_iload C.1.1 C.1.2.1 dX8_outcomes_93 (lv_at hl 7 rfl) ?_
  refine lv_iload C.1.1 C.1.2.1 dX8_outcomes_95 (lv_at hl 6 rfl) ?_
  refine lv_iload_n C.1.1 C.1.2.1 dX8_outcomes_97 rfl (lv_at hl 2 rfl) ?_
  refine y_cVI C (As := [.int sv0, .int xv6, .int xv6, .int xv5, .int xv1]) (rest := []) ml_X8_447 (kX8_ruled l G SB S st0 xt6 xt6 xt5 xt1 h) (ocr SB) (T := TX8) (N := 60) rfl (by decide) ⟨(Nat.le_of_ble_eq_true rfl), (Nat.le_of_ble_eq_true rfl)⟩ hl.1 rfl rfl (Nat.le_of_ble_eq_true rfl) hw hS dX8_outcomes_98 (fun v1 x_1 S_1 H locs t1 h hw hS => ?_)
  refine lv_istore (lv' := [(8, .int v1), (7, .int sv0), (0, .ref (G.2.2 1042)), (1, .int xv1), (2, .int xv2), (3, .int xv3), (4, .int xv4), (5, .int xv5), (6, .int xv6)]) C.1.1 C.1.2.1 dX8_outcomes_101 hl (by decide) rfl (fun ls hl => ?_)
  refine lv_iload C.1.1 C.1.2.1 dX8_outcomes_103 (lv_at hl 6 rfl) ?_
  refine lv_iload C.1.1 C.1.2.1 dX8_outcomes_105 (lv_at hl 0 rfl) ?_
  refine lv_iload_n C.1.1 C.1.2.1 dX8_outcomes_107 rfl (lv_at hl 4 rfl) ?_
  refine y_icmp_eq C t1 xt2 dX8_outcomes_108 (tgt := 120) (by decide) (fun c2 => ?_) (fun c2 => ?_)
  · have h := h.1 c2
    exact uX8_outcomes_120 C hw hS xt1 xt2 xt3 xt5 xt4 (lv_sub hl [2, 3, 4, 5, 7] rfl) hP6 h
  · have h := h.2 c2
    refine lv_iload_n C.1.1 C.1.2.1 dX8_outcomes_111 rfl (lv_at hl 4 rfl) ?_
    refine y_if_ne C xt2 dX8_outcomes_112 (tgt := 124) (by decide) (fun c3 => ?_) (fun c3 => ?_)
    · have h := h.1 c3
      exact uX8_outcomes_124 C hw hS xt1 xt2 xt3 xt5 xt4 (lv_sub hl [2, 3, 4, 5, 7] rfl) hP6 h
    · have h := h.2 c3
      refine lv_iload C.1.1 C.1.2.1 dX8_outcomes_115 (lv_at hl 0 rfl) ?_
      refine y_if_lt C t1 dX8_outcomes_117 (tgt := 124) (by decide) (fun c4 => ?_) (fun c4 => ?_)
      · have h := h.1 c4
        exact uX8_outcomes_124 C hw hS xt1 xt2 xt3 xt5 xt4 (lv_sub hl [2, 3, 4, 5, 7] rfl) hP6 h
      · have h := h.2 c4
        exact uX8_outcomes_120 C hw hS xt1 xt2 xt3 xt5 xt4 (lv_sub hl [2, 3, 4, 5, 7] rfl) hP6 h
set_option maxHeartbeats 4000000 in
set_option maxRecDepth 10000 in
theorem uX8_outcomes_66 {p : Program} {l : Launch} {e : Env} {s : State} {m : MethodId} {args : Array Value} {below : List Frame} {meth : Method} {c : Code} {G : GG} {SB : St} (C : Cx p s m args meth c G RX8 cX8_outcomes 9 (some .int)) {S : St} {H : Heap} {locs : List Loc} {ls : Array Slot} {P6 : Int → Int → St → Prop} {k : Int → St → Prop} (hw : Wd G ((injR SB) S) H) (hS : va_S (AG G) s.heap H locs) {xv1 : Int32} {x1 : Int} (xt1 : xv1.toInt = x1) {xv2 : Int32} {x2 : Int} (xt2 : xv2.toInt = x2) {xv3 : Int32} {x3 : Int} (xt3 : xv3.toInt = x3) {xv4 : Int32} {x4 : Int} (xt4 : xv4.toInt = x4) {xv5 : Int32} {x5 : Int} (xt5 : xv5.toInt = x5) {xv6 : Int32} {x6 : Int} (xt6 : xv6.toInt = x6) (hl : lv_has ls 9 [(0, .ref (G.2.2 1042)), (1, .int xv1), (2, .int xv2), (3, .int xv3), (4, .int xv4), (5, .int xv5), (6, .int xv6)]) (hP6 : ∀ {H : Heap} {locs : List Loc} {ls : Array Slot} {Sy : St} {yv4 : Int32} {y4 : Int} {yv5 : Int32} {y5 : Int}, yv4.toInt = y4 → yv5.toInt = y5 → Wd G ((injR SB) Sy) H → va_S (AG G) s.heap H locs → lv_has ls 9 [(0, .ref (G.2.2 1042)), (1, .int xv1), (2, .int xv2), (3, .int xv3), (4, .int yv4), (5, .int yv5)] → P6 y4 y5 Sy → W p l e (rmF 10 240) s m args below meth c H locs 0 0 (MQ below (QcI G (injR SB) k) args s 0 0 (AG G)) (F0 m 6 ls [])) (h : wX8_outcomes_66 S x1 x2 x3 x4 x5 x6 P6 k) : W p l e (rmF 10 240) s m args below meth c H locs 0 0 (MQ below (QcI G (injR SB) k) args s 0 0 (AG G)) (F0 m 66 ls []) := by
  refine lv_aload_n C.1.1 C.1.2.1 dX8_outcomes_66 rfl (lv_at hl 0 rfl) ?_
  refine y_getA C fl_X8_70 hw (ocr SB) rfl (o := 11) rfl dX8_outcomes_67 ?_
  refine lv_aload_n C.1.1 C.1.2.1 dX8_outcomes_70 rfl (lv_at hl 0 rfl) ?_
  refine lv_iload C.1.1 C.1.2.1 dX8_outcomes_71 (lv_at hl 6 rfl) ?_
  refine y_cVIp C (As := [.int xv6]) (rest := [.ref (G.2.2 (1053))]) ml_X8_214 (kX8_t l G SB S xt6 h) (ocr SB) (T := TX8) (N := 60) rfl (by decide) ⟨(Nat.le_of_ble_eq_true rfl), (Nat.le_of_ble_eq_true rfl)⟩ hl.1 rfl rfl (Nat.le_of_ble_eq_true rfl) hw hS dX8_outcomes_73 (fun v2 x_2 H locs t2 h hw hS => ?_)
  obtain ⟨b3, h⟩ := h
  refine y_iald C hw (acr_20 SB) t2 b3 dX8_outcomes_76 (fun v3 t3 => ?_)
  refine y_iconst C dX8_outcomes_77 ⟨by decide, by decide⟩ (fun v4 t4 => ?_)
  refine y_icmp_ne C t3 t4 dX8_outcomes_78 (tgt := 85) (by decide) (fun c5 => ?_) (fun c5 => ?_)
  · have h := h.1 c5
    refine y_iconst C dX8_outcomes_85 ⟨by decide, by decide⟩ (fun v6 t6 => ?_)
    exact uX8_outcomes_86 C hw hS xt1 xt2 xt3 xt4 xt5 xt6 t6 (lv_sub hl [0, 1, 2, 3, 4, 5, 6] rfl) hP6 h
  · have h := h.2 c5
    refine y_iconst C dX8_outcomes_81 ⟨by decide, by decide⟩ (fun v7 t7 => ?_)
    refine lv_goto (tgt := 86) C.1.1 C.1.2.1 dX8_outcomes_82 (by decide) ?_
    exact uX8_outcomes_86 C hw hS xt1 xt2 xt3 xt4 xt5 xt6 t7 (lv_sub hl [0, 1, 2, 3, 4, 5, 6] rfl) hP6 h
set_option maxHeartbeats 4000000 in
set_option maxRecDepth 10000 in
theorem uX8_outcomes_6_b {p : Program} {l : Launch} {e : Env} {s : State} {m : MethodId} {args : Array Value} {below : List Frame} {meth : Method} {c : Code} {G : GG} {SB : St} (C : Cx p s m args meth c G RX8 cX8_outcomes 9 (some .int)) {S : St} {H : Heap} {locs : List Loc} {ls : Array Slot}  {P6 : Int → Int → St → Prop} {k : Int → St → Prop} (hw : Wd G ((injR SB) S) H) (hS : va_S (AG G) s.heap H locs) {xv1 : Int32} {x1 : Int} (xt1 : xv1.toInt = x1) {xv2 : Int32} {x2 : Int} (xt2 : xv2.toInt = x2) {xv3 : Int32} {x3 : Int} (xt3 : xv3.toInt = x3) {xv4 : Int32} {x4 : Int} (xt4 : xv4.toInt = x4) {xv5 : Int32} {x5 : Int} (xt5 : xv5.toInt = x5) (hl : lv_has ls 9 [(0, .ref (G.2.2 1042)), (1, .int xv1), (2, .int xv2), (3, .int xv3), (4, .int xv4), (5, .int xv5)])  (hP6 : ∀ {H : Heap} {locs : List Loc} {ls : Array Slot} {Sy : St} {yv4 : Int32} {y4 : Int} {yv5 : Int32} {y5 : Int}, yv4.toInt = y4 → yv5.toInt = y5 → Wd G ((injR SB) Sy) H → va_S (AG G) s.heap H locs → lv_has ls 9 [(0, .ref (G.2.2 1042)), (1, .int xv1), (2, .int xv2), (3, .int xv3), (4, .int yv4), (5, .int yv5)] → P6 y4 y5 Sy → W p l e (rmF 10 240) s m args below meth c H locs 0 0 (MQ below (QcI G (injR SB) k) args s 0 0 (AG G)) (F0 m 6 ls [])) (h : wX8_outcomes_6_b S x1 x2 x3 x4 x5 P6 k) : W p l e (rmF 10 240) s m args below meth c H locs 0 0 (MQ below (QcI G (injR SB) k) args s 0 0 (AG G)) (F0 m 6 ls []) := by
  refine lv_iload C.1.1 C.1.2.1 dX8_outcomes_6 (lv_at hl 5 rfl) ?_
  refine lv_aload_n C.1.1 C.1.2.1 dX8_outcomes_8 rfl (lv_at hl 0 rfl) ?_
  refine y_getA C fl_X8_49 hw (ocr SB) rfl (o := 4) rfl dX8_outcomes_9 ?_
  refine lv_aload_n C.1.1 C.1.2.1 dX8_outcomes_12 rfl (lv_at hl 0 rfl) ?_
  refine y_getI C fl_X8_208 hw (ocr SB) rfl dX8_outcomes_13 (fun v2 t2 => ?_)
  obtain ⟨b3, h⟩ := h
  refine y_iald C hw (acr_13 SB) t2 b3 dX8_outcomes_16 (fun v3 t3 => ?_)
  refine y_icmp_ge C xt5 t3 dX8_outcomes_17 (tgt := 134) (by decide) (fun c4 => ?_) (fun c4 => ?_)
  · have h := h.1 c4
    refine lv_iload C.1.1 C.1.2.1 dX8_outcomes_134 (lv_at hl 4 rfl) ?_
    exact y_iret C hw hS xt4 h dX8_outcomes_136
  · have h := h.2 c4
    refine lv_aload_n C.1.1 C.1.2.1 dX8_outcomes_20 rfl (lv_at hl 0 rfl) ?_
    refine y_getA C fl_X8_122 hw (ocr SB) rfl (o := 28) rfl dX8_outcomes_21 ?_
    refine lv_aload_n C.1.1 C.1.2.1 dX8_outcomes_24 rfl (lv_at hl 0 rfl) ?_
    refine lv_iload C.1.1 C.1.2.1 dX8_outcomes_25 (lv_at hl 5 rfl) ?_
    refine y_cVIp C (As := [.int xv5]) (rest := [.ref (G.2.2 (1070))]) ml_X8_218 (kX8_m l G SB S xt5 h) (ocr SB) (T := TX8) (N := 60) rfl (by decide) ⟨(Nat.le_of_ble_eq_true rfl), (Nat.le_of_ble_eq_true rfl)⟩ hl.1 rfl rfl (Nat.le_of_ble_eq_true rfl) hw hS dX8_outcomes_27 (fun v6 x_6 H locs t6 h hw hS => ?_)
    obtain ⟨b7, h⟩ := h
    refine y_iald C hw (acr_37 SB) t6 b7 dX8_outcomes_30 (fun v7 t7 => ?_)
    obtain ⟨x_8, e8⟩ : ∃ z : Int, z = S 28 x_6 := ⟨_, rfl⟩
    have h := h x_8 e8
    have t8 := t7.trans e8.symm
    refine lv_istore (lv' := [(6, .int v7), (0, .ref (G.2.2 1042)), (1, .int xv1), (2, .int xv2), (3, .int xv3), (4, .int xv4), (5, .int xv5)]) C.1.1 C.1.2.1 dX8_outcomes_31 hl (by decide) rfl (fun ls hl => ?_)
    refine lv_aload_n C.1.1 C.1.2.1 dX8_outcomes_33 rfl (lv_at hl 1 rfl) ?_
    refine lv_iload_n C.1.1 C.1.2.1 dX8_outcomes_34 rfl (lv_at hl 2 rfl) ?_
    refine lv_iload C.1.1 C.1.2.1 dX8_outcomes_35 (lv_at hl 0 rfl) ?_
    refine y_cVIp C (As := [.int xv1, .int v7]) (rest := []) ml_X8_335 (kX8_isUnder l G SB S xt1 t8 h) (ocr SB) (T := TX8) (N := 60) rfl (by decide) ⟨(Nat.le_of_ble_eq_true rfl), (Nat.le_of_ble_eq_true rfl)⟩ hl.1 rfl rfl (Nat.le_of_ble_eq_true rfl) hw hS dX8_outcomes_37 (fun v9 x_9 H locs t9 h hw hS => ?_)
    refine y_if_eq C t9 dX8_outcomes_40 (tgt := 128) (by decide) (fun c10 => ?_) (fun c10 => ?_)
    · have h := h.1 c10
      obtain ⟨x_11, e11⟩ : ∃ z : Int, z = w32 (x5 + 1) := ⟨_, rfl⟩
      have h := h x_11 e11
      obtain ⟨v11, t11, g11⟩ : ∃ z : Int32, z.toInt = x_11 ∧ xv5 + Int32.ofInt 1 = z := ⟨_, (ti_inc xt5 ⟨by decide, by decide⟩).trans e11.symm, rfl⟩
      refine lv_iinc (v := v11) (lv' := [(5, .int v11), (6, .int v7), (0, .ref (G.2.2 1042)), (1, .int xv1), (2, .int xv2), (3, .int xv3), (4, .int xv4)]) C.1.1 C.1.2.1 dX8_outcomes_128 hl (k := 6) rfl g11 (by decide) rfl (fun ls hl => ?_)
      refine lv_goto (tgt := 6) C.1.1 C.1.2.1 dX8_outcomes_131 (by decide) ?_
      exact hP6 xt4 t11 hw hS (lv_sub hl [2, 3, 4, 5, 6, 0] rfl) h
    · have h := h.2 c10
      refine lv_iload_n C.1.1 C.1.2.1 dX8_outcomes_43 rfl (lv_at hl 4 rfl) ?_
      refine y_if_eq C xt3 dX8_outcomes_44 (tgt := 66) (by decide) (fun c12 => ?_) (fun c12 => ?_)
      · have h := h.1 c12
        exact uX8_outcomes_66 C hw hS xt1 xt2 xt3 xt4 xt5 t8 (lv_sub hl [1, 2, 3, 4, 5, 6, 0] rfl) hP6 h
      · have h := h.2 c12
        refine lv_aload_n C.1.1 C.1.2.1 dX8_outcomes_47 rfl (lv_at hl 1 rfl) ?_
        refine y_getA C fl_X8_131 hw (ocr SB) rfl (o := 31) rfl dX8_outcomes_48 ?_
        refine lv_aload_n C.1.1 C.1.2.1 dX8_outcomes_51 rfl (lv_at hl 1 rfl) ?_
        refine lv_iload C.1.1 C.1.2.1 dX8_outcomes_52 (lv_at hl 6 rfl) ?_
        refine y_cVIp C (As := [.int xv5]) (rest := [.ref (G.2.2 (1073))]) ml_X8_218 (kX8_m l G SB S xt5 h) (ocr SB) (T := TX8) (N := 60) rfl (by decide) ⟨(Nat.le_of_ble_eq_true rfl), (Nat.le_of_ble_eq_true rfl)⟩ hl.1 rfl rfl (Nat.le_of_ble_eq_true rfl) hw hS dX8_outcomes_54 (fun v14 x_14 H locs t14 h hw hS => ?_)
        obtain ⟨b15, h⟩ := h
        refine y_iald C hw (acr_40 SB) t14 b15 dX8_outcomes_57 (fun v15 t15 => ?_)
        refine y_iconst C dX8_outcomes_58 ⟨by decide, by decide⟩ (fun v16 t16 => ?_)
        refine y_icmp_ne C t15 t16 dX8_outcomes_59 (tgt := 66) (by decide) (fun c17 => ?_) (fun c17 => ?_)
        · have h := h.1 c17
          exact uX8_outcomes_66 C hw hS xt1 xt2 xt3 xt4 xt5 t8 (lv_sub hl [1, 2, 3, 4, 5, 6, 0] rfl) hP6 h
        · have h := h.2 c17
          refine y_iconst C dX8_outcomes_62 ⟨by decide, by decide⟩ (fun v18 t18 => ?_)
          refine lv_goto (tgt := 86) C.1.1 C.1.2.1 dX8_outcomes_63 (by decide) ?_
          exact uX8_outcomes_86 C hw hS xt1 xt2 xt3 xt4 xt5 t8 t18 (lv_sub hl [1, 2, 3, 4, 5, 6, 0] rfl) hP6 h
set_option maxHeartbeats 4000000 in
set_option maxRecDepth 10000 in
theorem uX8_outcomes_6 {p : Program} {l : Launch} {e : Env} {s : State} {m : MethodId} {args : Array Value} {below : List Frame} {meth : Method} {c : Code} {G : GG} {SB : St} (C : Cx p s m args meth c G RX8 cX8_outcomes 9 (some .int)) {S : St} {H : Heap} {locs : List Loc} {ls : Array Slot}  {k : Int → St → Prop} (hw : Wd G ((injR SB) S) H) (hS : va_S (AG G) s.heap H locs) {xv1 : Int32} {x1 : Int} (xt1 : xv1.toInt = x1) {xv2 : Int32} {x2 : Int} (xt2 : xv2.toInt = x2) {xv3 : Int32} {x3 : Int} (xt3 : xv3.toInt = x3) {xv4 : Int32} {x4 : Int} (xt4 : xv4.toInt = x4) {xv5 : Int32} {x5 : Int} (xt5 : xv5.toInt = x5) (hl : lv_has ls 9 [(0, .ref (G.2.2 1042)), (1, .int xv1), (2, .int xv2), (3, .int xv3), (4, .int xv4), (5, .int xv5)])  (h : wX8_outcomes_6 S x1 x2 x3 x4 x5 k) : W p l e (rmF 10 240) s m args below meth c H locs 0 0 (MQ below (QcI G (injR SB) k) args s 0 0 (AG G)) (F0 m 6 ls []) := by
  have key : ∀ (n : Nat) {H : Heap} {locs : List Loc} {ls : Array Slot} {S : St} {xv4 : Int32} {x4 : Int} {xv5 : Int32} {x5 : Int}, xv4.toInt = x4 → xv5.toInt = x5 → Wd G ((injR SB) S) H → va_S (AG G) s.heap H locs → lv_has ls 9 [(0, .ref (G.2.2 1042)), (1, .int xv1), (2, .int xv2), (3, .int xv3), (4, .int xv4), (5, .int xv5)] → itP (fun (P : Int × Int × St → Prop) (a : Int × Int × St) => wX8_outcomes_6_b a.2.2 x1 x2 x3 a.1 a.2.1 (fun b0 b1 b2 => P (b0, b1, b2)) k) n (x4, x5, S) → W p l e (rmF 10 240) s m args below meth c H locs 0 0 (MQ below (QcI G (injR SB) k) args s 0 0 (AG G)) (F0 m 6 ls []) := by
    intro n
    induction n with
    | zero => intro H locs ls S xv4 x4 xv5 x5 xt4 xt5 hw hS hl h; exact h.elim
    | succ n ih =>
      intro H locs ls S xv4 x4 xv5 x5 xt4 xt5 hw hS hl h
      exact uX8_outcomes_6_b C hw hS xt1 xt2 xt3 xt4 xt5 hl  (P6 := fun b0 b1 b2 => itP _ n (b0, b1, b2)) (fun q0 q1 hw hS hl h => ih q0 q1 hw hS hl h) h
  obtain ⟨n, hn⟩ := h
  exact key n xt4 xt5 hw hS hl hn
set_option maxHeartbeats 4000000 in
set_option maxRecDepth 10000 in
theorem uX8_outcomes_0 {p : Program} {l : Launch} {e : Env} {s : State} {m : MethodId} {args : Array Value} {below : List Frame} {meth : Method} {c : Code} {G : GG} {SB : St} (C : Cx p s m args meth c G RX8 cX8_outcomes 9 (some .int)) {S : St} {H : Heap} {locs : List Loc} {ls : Array Slot}  {k : Int → St → Prop} (hw : Wd G ((injR SB) S) H) (hS : va_S (AG G) s.heap H locs) {xv1 : Int32} {x1 : Int} (xt1 : xv1.toInt = x1) {xv2 : Int32} {x2 : Int} (xt2 : xv2.toInt = x2) {xv3 : Int32} {x3 : Int} (xt3 : xv3.toInt = x3) (hl : lv_has ls 9 [(0, .ref (G.2.2 1042)), (1, .int xv1), (2, .int xv2), (3, .int xv3)])  (h : wX8_outcomes_0 S x1 x2 x3 k) : W p l e (rmF 10 240) s m args below meth c H locs 0 0 (MQ below (QcI G (injR SB) k) args s 0 0 (AG G)) (F0 m 0 ls []) := by
  refine y_iconst C dX8_outcomes_0 ⟨by decide, by decide⟩ (fun v1 t1 => ?_)
  refine lv_istore (lv' := [(4, .int v1), (0, .ref (G.2.2 1042)), (1, .int xv1), (2, .int xv2), (3, .int xv3)]) C.1.1 C.1.2.1 dX8_outcomes_1 hl (by decide) rfl (fun ls hl => ?_)
  refine y_iconst C dX8_outcomes_3 ⟨by decide, by decide⟩ (fun v2 t2 => ?_)
  refine lv_istore (lv' := [(5, .int v2), (4, .int v1), (0, .ref (G.2.2 1042)), (1, .int xv1), (2, .int xv2), (3, .int xv3)]) C.1.1 C.1.2.1 dX8_outcomes_4 hl (by decide) rfl (fun ls hl => ?_)
  exact uX8_outcomes_6 C hw hS xt1 xt2 xt3 t1 t2 (lv_sub hl [2, 3, 4, 5, 1, 0] rfl)  h
theorem kX8_outcomes (l : Launch) (G : GG) (SB S : St) {xv1 : Int32} {x1 : Int} (xt1 : xv1.toInt = x1) {xv2 : Int32} {x2 : Int} (xt2 : xv2.toInt = x2) {xv3 : Int32} {x3 : Int} (xt3 : xv3.toInt = x3) {k : Int → St → Prop} (h : wX8_outcomes S x1 x2 x3 k) : CnI l yX8_outcomes cX8_outcomes 9 (some .int) 10 240 G (injR SB) [.ref (G.2.2 1042), .int xv1, .int xv2, .int xv3] S k :=
  cn_body (by decide +kernel) (Nat.le_of_ble_eq_true rfl) (fun p e s m args below meth c ls C hw hl => uX8_outcomes_0 C hw va_S.rf xt1 xt2 xt3 (lv_sub hl [0, 1, 2, 3] rfl) h)
set_option maxHeartbeats 4000000 in
set_option maxRecDepth 10000 in
theorem uX8_conflicts_0 {p : Program} {l : Launch} {e : Env} {s : State} {m : MethodId} {args : Array Value} {below : List Frame} {meth : Method} {c : Code} {G : GG} {SB : St} (C : Cx p s m args meth c G RX8 cX8_conflicts 2 (some .int)) {S : St} {H : Heap} {locs : List Loc} {ls : Array Slot}  {k : Int → St → Prop} (hw : Wd G ((injR SB) S) H) (hS : va_S (AG G) s.heap H locs) {xv1 : Int32} {x1 : Int} (xt1 : xv1.toInt = x1) (hl : lv_has ls 2 [(0, .ref (G.2.2 1042)), (1, .int xv1)])  (h : wX8_conflicts_0 S x1 k) : W p l e (rmF 11 268) s m args below meth c H locs 0 0 (MQ below (QcI G (injR SB) k) args s 0 0 (AG G)) (F0 m 0 ls []) := by
  refine lv_aload_n C.1.1 C.1.2.1 dX8_conflicts_0 rfl (lv_at hl 0 rfl) ?_
  refine lv_iload_n C.1.1 C.1.2.1 dX8_conflicts_1 rfl (lv_at hl 1 rfl) ?_
  refine y_cVI C (As := [.int xv1]) (rest := []) ml_X8_371 (kX8_isType l G SB S xt1 h) (ocr SB) (T := TX8) (N := 60) rfl (by decide) ⟨(Nat.le_of_ble_eq_true rfl), (Nat.le_of_ble_eq_true rfl)⟩ hl.1 rfl rfl (Nat.le_of_ble_eq_true rfl) hw hS dX8_conflicts_2 (fun v1 x_1 S_1 H locs t1 h hw hS => ?_)
  refine y_if_ne C t1 dX8_conflicts_5 (tgt := 11) (by decide) (fun c2 => ?_) (fun c2 => ?_)
  · have h := h.1 c2
    refine lv_aload_n C.1.1 C.1.2.1 dX8_conflicts_11 rfl (lv_at hl 0 rfl) ?_
    refine y_getA C fl_X8_70 hw (ocr SB) rfl (o := 11) rfl dX8_conflicts_12 ?_
    refine lv_aload_n C.1.1 C.1.2.1 dX8_conflicts_15 rfl (lv_at hl 0 rfl) ?_
    refine lv_iload_n C.1.1 C.1.2.1 dX8_conflicts_16 rfl (lv_at hl 1 rfl) ?_
    refine y_cVIp C (As := [.int xv1]) (rest := [.ref (G.2.2 (1053))]) ml_X8_214 (kX8_t l G SB S_1 xt1 h) (ocr SB) (T := TX8) (N := 60) rfl (by decide) ⟨(Nat.le_of_ble_eq_true rfl), (Nat.le_of_ble_eq_true rfl)⟩ hl.1 rfl rfl (Nat.le_of_ble_eq_true rfl) hw hS dX8_conflicts_17 (fun v4 x_4 H locs t4 h hw hS => ?_)
    obtain ⟨b5, h⟩ := h
    refine y_iald C hw (acr_20 SB) t4 b5 dX8_conflicts_20 (fun v5 t5 => ?_)
    refine y_if_eq C t5 dX8_conflicts_21 (tgt := 29) (by decide) (fun c6 => ?_) (fun c6 => ?_)
    · have h := h.1 c6
      refine lv_aload_n C.1.1 C.1.2.1 dX8_conflicts_29 rfl (lv_at hl 0 rfl) ?_
      refine lv_iload_n C.1.1 C.1.2.1 dX8_conflicts_30 rfl (lv_at hl 1 rfl) ?_
      refine y_bipush C dX8_conflicts_31 ⟨by decide, by decide⟩ (fun v7 t7 => ?_)
      refine y_iconst C dX8_conflicts_33 ⟨by decide, by decide⟩ (fun v8 t8 => ?_)
      refine y_cVI C (As := [.int xv1, .int v7, .int v8]) (rest := []) ml_X8_454 (kX8_outcomes l G SB S_1 xt1 t7 t8 h) (ocr SB) (T := TX8) (N := 60) rfl (by decide) ⟨(Nat.le_of_ble_eq_true rfl), (Nat.le_of_ble_eq_true rfl)⟩ hl.1 rfl rfl (Nat.le_of_ble_eq_true rfl) hw hS dX8_conflicts_34 (fun v9 x_9 S_9 H locs t9 h hw hS => ?_)
      exact y_iret C hw hS t9 h dX8_conflicts_37
    · have h := h.2 c6
      refine y_bipush C dX8_conflicts_24 ⟨by decide, by decide⟩ (fun v10 t10 => ?_)
      refine lv_goto (tgt := 37) C.1.1 C.1.2.1 dX8_conflicts_26 (by decide) ?_
      exact y_iret C hw hS t10 h dX8_conflicts_37
  · have h := h.2 c2
    refine y_bipush C dX8_conflicts_8 ⟨by decide, by decide⟩ (fun v11 t11 => ?_)
    exact y_iret C hw hS t11 h dX8_conflicts_10
theorem kX8_conflicts (l : Launch) (G : GG) (SB S : St) {xv1 : Int32} {x1 : Int} (xt1 : xv1.toInt = x1) {k : Int → St → Prop} (h : wX8_conflicts S x1 k) : CnI l yX8_conflicts cX8_conflicts 2 (some .int) 11 268 G (injR SB) [.ref (G.2.2 1042), .int xv1] S k :=
  cn_body (by decide +kernel) (Nat.le_of_ble_eq_true rfl) (fun p e s m args below meth c ls C hw hl => uX8_conflicts_0 C hw va_S.rf xt1 (lv_sub hl [0, 1] rfl) h)
set_option maxHeartbeats 4000000 in
set_option maxRecDepth 10000 in
theorem uX8_tally_0 {p : Program} {l : Launch} {e : Env} {s : State} {m : MethodId} {args : Array Value} {below : List Frame} {meth : Method} {c : Code} {G : GG} {SB : St} (C : Cx p s m args meth c G RX8 cX8_tally 3 (some .int)) {S : St} {H : Heap} {locs : List Loc} {ls : Array Slot}  {k : Int → St → Prop} (hw : Wd G ((injR SB) S) H) (hS : va_S (AG G) s.heap H locs) {xv1 : Int32} {x1 : Int} (xt1 : xv1.toInt = x1) {xv2 : Int32} {x2 : Int} (xt2 : xv2.toInt = x2) (hl : lv_has ls 3 [(0, .ref (G.2.2 1042)), (1, .int xv1), (2, .int xv2)])  (h : wX8_tally_0 S x1 x2 k) : W p l e (rmF 11 268) s m args below meth c H locs 0 0 (MQ below (QcI G (injR SB) k) args s 0 0 (AG G)) (F0 m 0 ls []) := by
  refine lv_aload_n C.1.1 C.1.2.1 dX8_tally_0 rfl (lv_at hl 0 rfl) ?_
  refine lv_iload_n C.1.1 C.1.2.1 dX8_tally_1 rfl (lv_at hl 1 rfl) ?_
  refine y_cVI C (As := [.int xv1]) (rest := []) ml_X8_371 (kX8_isType l G SB S xt1 h) (ocr SB) (T := TX8) (N := 60) rfl (by decide) ⟨(Nat.le_of_ble_eq_true rfl), (Nat.le_of_ble_eq_true rfl)⟩ hl.1 rfl rfl (Nat.le_of_ble_eq_true rfl) hw hS dX8_tally_2 (fun v1 x_1 S_1 H locs t1 h hw hS => ?_)
  refine y_if_ne C t1 dX8_tally_5 (tgt := 11) (by decide) (fun c2 => ?_) (fun c2 => ?_)
  · have h := h.1 c2
    refine lv_iload_n C.1.1 C.1.2.1 dX8_tally_11 rfl (lv_at hl 2 rfl) ?_
    refine y_bipush C dX8_tally_12 ⟨by decide, by decide⟩ (fun v3 t3 => ?_)
    refine y_iconst C dX8_tally_14 ⟨by decide, by decide⟩ (fun v4 t4 => ?_)
    refine y_cSIp C (As := [.int xv2, .int v3, .int v4]) (rest := []) ms_X8_165 (kX8_in l G SB S_1 xt2 t3 t4 h) ⟨(Nat.le_of_ble_eq_true rfl), (Nat.le_of_ble_eq_true rfl)⟩ hl.1 rfl rfl (Nat.le_of_ble_eq_true rfl) hw hS dX8_tally_15 (fun v5 x_5 H locs t5 h hw hS => ?_)
    refine y_if_ne C t5 dX8_tally_18 (tgt := 24) (by decide) (fun c6 => ?_) (fun c6 => ?_)
    · have h := h.1 c6
      refine lv_aload_n C.1.1 C.1.2.1 dX8_tally_24 rfl (lv_at hl 0 rfl) ?_
      refine y_getA C fl_X8_70 hw (ocr SB) rfl (o := 11) rfl dX8_tally_25 ?_
      refine lv_aload_n C.1.1 C.1.2.1 dX8_tally_28 rfl (lv_at hl 0 rfl) ?_
      refine lv_iload_n C.1.1 C.1.2.1 dX8_tally_29 rfl (lv_at hl 1 rfl) ?_
      refine y_cVIp C (As := [.int xv1]) (rest := [.ref (G.2.2 (1053))]) ml_X8_214 (kX8_t l G SB S_1 xt1 h) (ocr SB) (T := TX8) (N := 60) rfl (by decide) ⟨(Nat.le_of_ble_eq_true rfl), (Nat.le_of_ble_eq_true rfl)⟩ hl.1 rfl rfl (Nat.le_of_ble_eq_true rfl) hw hS dX8_tally_30 (fun v8 x_8 H locs t8 h hw hS => ?_)
      obtain ⟨b9, h⟩ := h
      refine y_iald C hw (acr_20 SB) t8 b9 dX8_tally_33 (fun v9 t9 => ?_)
      refine y_if_eq C t9 dX8_tally_34 (tgt := 42) (by decide) (fun c10 => ?_) (fun c10 => ?_)
      · have h := h.1 c10
        refine lv_aload_n C.1.1 C.1.2.1 dX8_tally_42 rfl (lv_at hl 0 rfl) ?_
        refine lv_iload_n C.1.1 C.1.2.1 dX8_tally_43 rfl (lv_at hl 1 rfl) ?_
        refine lv_iload_n C.1.1 C.1.2.1 dX8_tally_44 rfl (lv_at hl 2 rfl) ?_
        refine y_iconst C dX8_tally_45 ⟨by decide, by decide⟩ (fun v11 t11 => ?_)
        refine y_cVI C (As := [.int xv1, .int xv2, .int v11]) (rest := []) ml_X8_454 (kX8_outcomes l G SB S_1 xt1 xt2 t11 h) (ocr SB) (T := TX8) (N := 60) rfl (by decide) ⟨(Nat.le_of_ble_eq_true rfl), (Nat.le_of_ble_eq_true rfl)⟩ hl.1 rfl rfl (Nat.le_of_ble_eq_true rfl) hw hS dX8_tally_46 (fun v12 x_12 S_12 H locs t12 h hw hS => ?_)
        exact y_iret C hw hS t12 h dX8_tally_49
      · have h := h.2 c10
        refine y_bipush C dX8_tally_37 ⟨by decide, by decide⟩ (fun v13 t13 => ?_)
        refine lv_goto (tgt := 49) C.1.1 C.1.2.1 dX8_tally_39 (by decide) ?_
        exact y_iret C hw hS t13 h dX8_tally_49
    · have h := h.2 c6
      refine y_bipush C dX8_tally_21 ⟨by decide, by decide⟩ (fun v14 t14 => ?_)
      exact y_iret C hw hS t14 h dX8_tally_23
  · have h := h.2 c2
    refine y_bipush C dX8_tally_8 ⟨by decide, by decide⟩ (fun v15 t15 => ?_)
    exact y_iret C hw hS t15 h dX8_tally_10
theorem kX8_tally (l : Launch) (G : GG) (SB S : St) {xv1 : Int32} {x1 : Int} (xt1 : xv1.toInt = x1) {xv2 : Int32} {x2 : Int} (xt2 : xv2.toInt = x2) {k : Int → St → Prop} (h : wX8_tally S x1 x2 k) : CnI l yX8_tally cX8_tally 3 (some .int) 11 268 G (injR SB) [.ref (G.2.2 1042), .int xv1, .int xv2] S k :=
  cn_body (by decide +kernel) (Nat.le_of_ble_eq_true rfl) (fun p e s m args below meth c ls C hw hl => uX8_tally_0 C hw va_S.rf xt1 xt2 (lv_sub hl [0, 1, 2] rfl) h)
set_option maxHeartbeats 4000000 in
set_option maxRecDepth 10000 in
theorem uX8_told_0 {p : Program} {l : Launch} {e : Env} {s : State} {m : MethodId} {args : Array Value} {below : List Frame} {meth : Method} {c : Code} {G : GG} {SB : St} (C : Cx p s m args meth c G RX8 cX8_told 2 (some .int)) {S : St} {H : Heap} {locs : List Loc} {ls : Array Slot}  {k : Int → St → Prop} (hw : Wd G ((injR SB) S) H) (hS : va_S (AG G) s.heap H locs) {xv1 : Int32} {x1 : Int} (xt1 : xv1.toInt = x1) (hl : lv_has ls 2 [(0, .ref (G.2.2 1042)), (1, .int xv1)])  (h : wX8_told_0 S x1 k) : W p l e (rmF 0 0) s m args below meth c H locs 0 0 (MQ below (QcI G (injR SB) k) args s 0 0 (AG G)) (F0 m 0 ls []) := by
  refine lv_aload_n C.1.1 C.1.2.1 dX8_told_0 rfl (lv_at hl 0 rfl) ?_
  refine lv_aload_n C.1.1 C.1.2.1 dX8_told_1 rfl (lv_at hl 0 rfl) ?_
  refine y_getI C fl_X8_211 hw (ocr SB) rfl dX8_told_2 (fun v1 t1 => ?_)
  obtain ⟨S_2, e2⟩ : ∃ z : St, z = up S 0 10 (S 0 11) := ⟨_, rfl⟩
  have h := h S_2 e2
  refine y_putI C fl_X8_208 fp_8_10 hw hS (ocr SB) rfl t1 dX8_told_5 (fun H locs hw hS => ?_)
  have hw : Wd G ((injR SB) S_2) H := by rw [e2]; exact hw
  refine lv_iload_n C.1.1 C.1.2.1 dX8_told_8 rfl (lv_at hl 1 rfl) ?_
  by_cases c3_0 : x1 = 0
  · have h := h.1 c3_0
    refine y_tabIn C xt1 c3_0 dX8_told_9 (by decide) (by decide) (off := 35) (by decide +kernel) (tgt := 44) (by decide) ?_
    refine lv_aload_n C.1.1 C.1.2.1 dX8_told_44 rfl (lv_at hl 0 rfl) ?_
    refine y_getA C fl_X8_45 hw (ocr SB) rfl (o := 3) rfl dX8_told_45 ?_
    refine lv_aload_n C.1.1 C.1.2.1 dX8_told_48 rfl (lv_at hl 0 rfl) ?_
    refine y_getI C fl_X8_208 hw (ocr SB) rfl dX8_told_49 (fun v5 t5 => ?_)
    obtain ⟨b6, h⟩ := h
    refine y_iald C hw (acr_12 SB) t5 b6 dX8_told_52 (fun v6 t6 => ?_)
    exact y_iret C hw hS t6 h dX8_told_53
  have h := h.2
  by_cases c3_1 : x1 = 1
  · have h := h.1 c3_1
    refine y_tabIn C xt1 c3_1 dX8_told_9 (by decide) (by decide) (off := 45) (by decide +kernel) (tgt := 54) (by decide) ?_
    refine lv_aload_n C.1.1 C.1.2.1 dX8_told_54 rfl (lv_at hl 0 rfl) ?_
    refine y_getA C fl_X8_49 hw (ocr SB) rfl (o := 4) rfl dX8_told_55 ?_
    refine lv_aload_n C.1.1 C.1.2.1 dX8_told_58 rfl (lv_at hl 0 rfl) ?_
    refine y_getI C fl_X8_208 hw (ocr SB) rfl dX8_told_59 (fun v8 t8 => ?_)
    obtain ⟨b9, h⟩ := h
    refine y_iald C hw (acr_13 SB) t8 b9 dX8_told_62 (fun v9 t9 => ?_)
    exact y_iret C hw hS t9 h dX8_told_63
  have h := h.2
  by_cases c3_2 : x1 = 2
  · have h := h.1 c3_2
    refine y_tabIn C xt1 c3_2 dX8_told_9 (by decide) (by decide) (off := 55) (by decide +kernel) (tgt := 64) (by decide) ?_
    refine lv_aload_n C.1.1 C.1.2.1 dX8_told_64 rfl (lv_at hl 0 rfl) ?_
    refine y_getA C fl_X8_52 hw (ocr SB) rfl (o := 5) rfl dX8_told_65 ?_
    refine lv_aload_n C.1.1 C.1.2.1 dX8_told_68 rfl (lv_at hl 0 rfl) ?_
    refine y_getI C fl_X8_208 hw (ocr SB) rfl dX8_told_69 (fun v11 t11 => ?_)
    obtain ⟨b12, h⟩ := h
    refine y_iald C hw (acr_14 SB) t11 b12 dX8_told_72 (fun v12 t12 => ?_)
    exact y_iret C hw hS t12 h dX8_told_73
  have h := h.2
  by_cases c3_3 : x1 = 3
  · have h := h.1 c3_3
    refine y_tabIn C xt1 c3_3 dX8_told_9 (by decide) (by decide) (off := 65) (by decide +kernel) (tgt := 74) (by decide) ?_
    refine lv_aload_n C.1.1 C.1.2.1 dX8_told_74 rfl (lv_at hl 0 rfl) ?_
    refine y_getA C fl_X8_55 hw (ocr SB) rfl (o := 6) rfl dX8_told_75 ?_
    refine lv_aload_n C.1.1 C.1.2.1 dX8_told_78 rfl (lv_at hl 0 rfl) ?_
    refine y_getI C fl_X8_208 hw (ocr SB) rfl dX8_told_79 (fun v14 t14 => ?_)
    obtain ⟨b15, h⟩ := h
    refine y_iald C hw (acr_15 SB) t14 b15 dX8_told_82 (fun v15 t15 => ?_)
    exact y_iret C hw hS t15 h dX8_told_83
  have h := h.2
  by_cases c3_4 : x1 = 4
  · have h := h.1 c3_4
    refine y_tabIn C xt1 c3_4 dX8_told_9 (by decide) (by decide) (off := 75) (by decide +kernel) (tgt := 84) (by decide) ?_
    refine lv_aload_n C.1.1 C.1.2.1 dX8_told_84 rfl (lv_at hl 0 rfl) ?_
    refine y_getI C fl_X8_161 hw (ocr SB) rfl dX8_told_85 (fun v16 t16 => ?_)
    exact y_iret C hw hS t16 h dX8_told_88
  have h := h.2
  have c3 := sw_0_4 c3_0 c3_1 c3_2 c3_3 c3_4
  have h := h c3
  refine y_tabOut C xt1 c3 dX8_told_9 (tgt := 89) (by decide) ?_
  refine y_bipush C dX8_told_89 ⟨by decide, by decide⟩ (fun v17 t17 => ?_)
  exact y_iret C hw hS t17 h dX8_told_91
theorem kX8_told (l : Launch) (G : GG) (SB S : St) {xv1 : Int32} {x1 : Int} (xt1 : xv1.toInt = x1) {k : Int → St → Prop} (h : wX8_told S x1 k) : CnI l yX8_told cX8_told 2 (some .int) 0 0 G (injR SB) [.ref (G.2.2 1042), .int xv1] S k :=
  cn_body (by decide +kernel) (Nat.le_of_ble_eq_true rfl) (fun p e s m args below meth c ls C hw hl => uX8_told_0 C hw va_S.rf xt1 (lv_sub hl [0, 1] rfl) h)
