/-! by program: the machine meets the models -/
set_option maxHeartbeats 4000000 in
set_option maxRecDepth 10000 in
theorem uX8_makeBridges_118_b {p : Program} {l : Launch} {e : Env} {s : State} {m : MethodId} {args : Array Value} {below : List Frame} {meth : Method} {c : Code} {G : GG} {SB : St} (C : Cx p s m args meth c G RX8 cX8_makeBridges 8 none) {S : St} {H : Heap} {locs : List Loc} {ls : Array Slot} {P35 : Int → St → Prop} {P80 : Int → St → Prop} {P118 : Int → St → Prop} {k : St → Prop} (hw : Wd G ((injR SB) S) H) (hS : va_S (AG G) s.heap H locs) {xv1 : Int32} {x1 : Int} (xt1 : xv1.toInt = x1) {xv2 : Int32} {x2 : Int} (xt2 : xv2.toInt = x2) {xv3 : Int32} {x3 : Int} (xt3 : xv3.toInt = x3) {xv4 : Int32} {x4 : Int} (xt4 : xv4.toInt = x4) {xv5 : Int32} {x5 : Int} (xt5 : xv5.toInt = x5) {xv6 : Int32} {x6 : Int} (xt6 : xv6.toInt = x6) (hl : lv_has ls 8 [(0, .ref (G.2.2 1042)), (1, .int xv1), (2, .int xv2), (3, .int xv3), (4, .int xv4), (5, .int xv5), (6, .int xv6)]) (hP35 : ∀ {H : Heap} {locs : List Loc} {ls : Array Slot} {Sy : St} {yv3 : Int32} {y3 : Int}, yv3.toInt = y3 → Wd G ((injR SB) Sy) H → va_S (AG G) s.heap H locs → lv_has ls 8 [(0, .ref (G.2.2 1042)), (1, .int xv1), (2, .int xv2), (3, .int yv3)] → P35 y3 Sy → W p l e (rmF 6 136) s m args below meth c H locs 0 0 (MQ below (QcV G (injR SB) k) args s 0 0 (AG G)) (F0 m 35 ls [])) (hP80 : ∀ {H : Heap} {locs : List Loc} {ls : Array Slot} {Sy : St} {yv4 : Int32} {y4 : Int}, yv4.toInt = y4 → Wd G ((injR SB) Sy) H → va_S (AG G) s.heap H locs → lv_has ls 8 [(0, .ref (G.2.2 1042)), (1, .int xv1), (2, .int xv2), (3, .int xv3), (4, .int yv4)] → P80 y4 Sy → W p l e (rmF 6 136) s m args below meth c H locs 0 0 (MQ below (QcV G (injR SB) k) args s 0 0 (AG G)) (F0 m 80 ls [])) (hP118 : ∀ {H : Heap} {locs : List Loc} {ls : Array Slot} {Sy : St} {yv6 : Int32} {y6 : Int}, yv6.toInt = y6 → Wd G ((injR SB) Sy) H → va_S (AG G) s.heap H locs → lv_has ls 8 [(0, .ref (G.2.2 1042)), (1, .int xv1), (2, .int xv2), (3, .int xv3), (4, .int xv4), (5, .int xv5), (6, .int yv6)] → P118 y6 Sy → W p l e (rmF 6 136) s m args below meth c H locs 0 0 (MQ below (QcV G (injR SB) k) args s 0 0 (AG G)) (F0 m 118 ls [])) (h : wX8_makeBridges_118_b S x1 x2 x3 x4 x5 x6 P35 P80 P118 k) : W p l e (rmF 6 136) s m args below meth c H locs 0 0 (MQ below (QcV G (injR SB) k) args s 0 0 (AG G)) (F0 m 118 ls []) := by
  refine lv_iload C.1.1 C.1.2.1 dX8_makeBridges_118 (lv_at hl 6 rfl) ?_
  refine lv_aload_n C.1.1 C.1.2.1 dX8_makeBridges_120 rfl (lv_at hl 0 rfl) ?_
  refine y_getA C fl_X8_110 hw (ocr SB) rfl (o := 24) rfl dX8_makeBridges_121 ?_
  refine lv_iload C.1.1 C.1.2.1 dX8_makeBridges_124 (lv_at hl 5 rfl) ?_
  obtain ⟨b2, h⟩ := h
  refine y_iald C hw (acr_33 SB) xt5 b2 dX8_makeBridges_126 (fun v2 t2 => ?_)
  refine lv_aload_n C.1.1 C.1.2.1 dX8_makeBridges_127 rfl (lv_at hl 0 rfl) ?_
  refine y_getA C fl_X8_113 hw (ocr SB) rfl (o := 25) rfl dX8_makeBridges_128 ?_
  refine lv_iload C.1.1 C.1.2.1 dX8_makeBridges_131 (lv_at hl 5 rfl) ?_
  obtain ⟨b4, h⟩ := h
  refine y_iald C hw (acr_34 SB) xt5 b4 dX8_makeBridges_133 (fun v4 t4 => ?_)
  refine y_iadd C t2 t4 dX8_makeBridges_134 (fun v5 t5 => ?_)
  refine y_icmp_ge C xt6 t5 dX8_makeBridges_135 (tgt := 234) (by decide) (fun c6 => ?_) (fun c6 => ?_)
  · have h := h.1 c6
    obtain ⟨x_7, e7⟩ : ∃ z : Int, z = w32 (x4 + 1) := ⟨_, rfl⟩
    have h := h x_7 e7
    obtain ⟨v7, t7, g7⟩ : ∃ z : Int32, z.toInt = x_7 ∧ xv4 + Int32.ofInt 1 = z := ⟨_, (ti_inc xt4 ⟨by decide, by decide⟩).trans e7.symm, rfl⟩
    refine lv_iinc (v := v7) (lv' := [(4, .int v7), (0, .ref (G.2.2 1042)), (1, .int xv1), (2, .int xv2), (3, .int xv3), (5, .int xv5), (6, .int xv6)]) C.1.1 C.1.2.1 dX8_makeBridges_234 hl (k := 4) rfl g7 (by decide) rfl (fun ls hl => ?_)
    refine lv_goto (tgt := 80) C.1.1 C.1.2.1 dX8_makeBridges_237 (by decide) ?_
    exact hP80 t7 hw hS (lv_sub hl [1, 2, 3, 4, 0] rfl) h
  · have h := h.2 c6
    refine lv_aload_n C.1.1 C.1.2.1 dX8_makeBridges_138 rfl (lv_at hl 0 rfl) ?_
    refine lv_iload_n C.1.1 C.1.2.1 dX8_makeBridges_139 rfl (lv_at hl 3 rfl) ?_
    refine lv_iload C.1.1 C.1.2.1 dX8_makeBridges_140 (lv_at hl 6 rfl) ?_
    refine y_cVIp C (As := [.int xv3, .int xv6]) (rest := []) ml_X8_329 (kX8_isOver l G SB S xt3 xt6 h) (ocr SB) (T := TX8) (N := 60) rfl (by decide) ⟨(Nat.le_of_ble_eq_true rfl), (Nat.le_of_ble_eq_true rfl)⟩ hl.1 rfl rfl (Nat.le_of_ble_eq_true rfl) hw hS dX8_makeBridges_142 (fun v8 x_8 H locs t8 h hw hS => ?_)
    refine y_if_eq C t8 dX8_makeBridges_145 (tgt := 228) (by decide) (fun c9 => ?_) (fun c9 => ?_)
    · have h := h.1 c9
      obtain ⟨x_10, e10⟩ : ∃ z : Int, z = w32 (x6 + 1) := ⟨_, rfl⟩
      have h := h x_10 e10
      obtain ⟨v10, t10, g10⟩ : ∃ z : Int32, z.toInt = x_10 ∧ xv6 + Int32.ofInt 1 = z := ⟨_, (ti_inc xt6 ⟨by decide, by decide⟩).trans e10.symm, rfl⟩
      refine lv_iinc (v := v10) (lv' := [(6, .int v10), (0, .ref (G.2.2 1042)), (1, .int xv1), (2, .int xv2), (3, .int xv3), (4, .int xv4), (5, .int xv5)]) C.1.1 C.1.2.1 dX8_makeBridges_228 hl (k := 6) rfl g10 (by decide) rfl (fun ls hl => ?_)
      refine lv_goto (tgt := 118) C.1.1 C.1.2.1 dX8_makeBridges_231 (by decide) ?_
      exact hP118 t10 hw hS (lv_sub hl [1, 2, 3, 4, 5, 6, 0] rfl) h
    · have h := h.2 c9
      refine lv_aload_n C.1.1 C.1.2.1 dX8_makeBridges_148 rfl (lv_at hl 0 rfl) ?_
      refine lv_iload_n C.1.1 C.1.2.1 dX8_makeBridges_149 rfl (lv_at hl 3 rfl) ?_
      refine lv_iload C.1.1 C.1.2.1 dX8_makeBridges_150 (lv_at hl 6 rfl) ?_
      refine y_cVIp C (As := [.int xv3, .int xv6]) (rest := []) ml_X8_347 (kX8_isSought l G SB S xt3 xt6 h) (ocr SB) (T := TX8) (N := 60) rfl (by decide) ⟨(Nat.le_of_ble_eq_true rfl), (Nat.le_of_ble_eq_true rfl)⟩ hl.1 rfl rfl (Nat.le_of_ble_eq_true rfl) hw hS dX8_makeBridges_152 (fun v11 x_11 H locs t11 h hw hS => ?_)
      refine y_if_ne C t11 dX8_makeBridges_155 (tgt := 228) (by decide) (fun c12 => ?_) (fun c12 => ?_)
      · have h := h.1 c12
        obtain ⟨x_13, e13⟩ : ∃ z : Int, z = w32 (x6 + 1) := ⟨_, rfl⟩
        have h := h x_13 e13
        obtain ⟨v13, t13, g13⟩ : ∃ z : Int32, z.toInt = x_13 ∧ xv6 + Int32.ofInt 1 = z := ⟨_, (ti_inc xt6 ⟨by decide, by decide⟩).trans e13.symm, rfl⟩
        refine lv_iinc (v := v13) (lv' := [(6, .int v13), (0, .ref (G.2.2 1042)), (1, .int xv1), (2, .int xv2), (3, .int xv3), (4, .int xv4), (5, .int xv5)]) C.1.1 C.1.2.1 dX8_makeBridges_228 hl (k := 6) rfl g13 (by decide) rfl (fun ls hl => ?_)
        refine lv_goto (tgt := 118) C.1.1 C.1.2.1 dX8_makeBridges_231 (by decide) ?_
        exact hP118 t13 hw hS (lv_sub hl [1, 2, 3, 4, 5, 6, 0] rfl) h
      · have h := h.2 c12
        refine lv_aload_n C.1.1 C.1.2.1 dX8_makeBridges_158 rfl (lv_at hl 0 rfl) ?_
        refine lv_iload_n C.1.1 C.1.2.1 dX8_makeBridges_159 rfl (lv_at hl 1 rfl) ?_
        refine lv_iload C.1.1 C.1.2.1 dX8_makeBridges_160 (lv_at hl 6 rfl) ?_
        refine y_cVIp C (As := [.int xv1, .int xv6]) (rest := []) ml_X8_350 (kX8_hasSought l G SB S xt1 xt6 h) (ocr SB) (T := TX8) (N := 60) rfl (by decide) ⟨(Nat.le_of_ble_eq_true rfl), (Nat.le_of_ble_eq_true rfl)⟩ hl.1 rfl rfl (Nat.le_of_ble_eq_true rfl) hw hS dX8_makeBridges_162 (fun v14 x_14 H locs t14 h hw hS => ?_)
        refine y_if_ne C t14 dX8_makeBridges_165 (tgt := 228) (by decide) (fun c15 => ?_) (fun c15 => ?_)
        · have h := h.1 c15
          obtain ⟨x_16, e16⟩ : ∃ z : Int, z = w32 (x6 + 1) := ⟨_, rfl⟩
          have h := h x_16 e16
          obtain ⟨v16, t16, g16⟩ : ∃ z : Int32, z.toInt = x_16 ∧ xv6 + Int32.ofInt 1 = z := ⟨_, (ti_inc xt6 ⟨by decide, by decide⟩).trans e16.symm, rfl⟩
          refine lv_iinc (v := v16) (lv' := [(6, .int v16), (0, .ref (G.2.2 1042)), (1, .int xv1), (2, .int xv2), (3, .int xv3), (4, .int xv4), (5, .int xv5)]) C.1.1 C.1.2.1 dX8_makeBridges_228 hl (k := 6) rfl g16 (by decide) rfl (fun ls hl => ?_)
          refine lv_goto (tgt := 118) C.1.1 C.1.2.1 dX8_makeBridges_231 (by decide) ?_
          exact hP118 t16 hw hS (lv_sub hl [1, 2, 3, 4, 5, 6, 0] rfl) h
        · have h := h.2 c15
          refine y_sipush C dX8_makeBridges_168 ⟨by decide, by decide⟩ (fun v17 t17 => ?_)
          refine lv_aload_n C.1.1 C.1.2.1 dX8_makeBridges_171 rfl (lv_at hl 0 rfl) ?_
          refine y_getI C fl_X8_208 hw (ocr SB) rfl dX8_makeBridges_172 (fun v18 t18 => ?_)
          refine y_imul C t17 t18 dX8_makeBridges_175 (fun v19 t19 => ?_)
          refine lv_aload_n C.1.1 C.1.2.1 dX8_makeBridges_176 rfl (lv_at hl 0 rfl) ?_
          refine y_getA C fl_X8_52 hw (ocr SB) rfl (o := 5) rfl dX8_makeBridges_177 ?_
          refine lv_aload_n C.1.1 C.1.2.1 dX8_makeBridges_180 rfl (lv_at hl 0 rfl) ?_
          refine y_getI C fl_X8_208 hw (ocr SB) rfl dX8_makeBridges_181 (fun v21 t21 => ?_)
          obtain ⟨b22, h⟩ := h
          refine y_iald C hw (acr_14 SB) t21 b22 dX8_makeBridges_184 (fun v22 t22 => ?_)
          refine y_iadd C t19 t22 dX8_makeBridges_185 (fun v23 t23 => ?_)
          obtain ⟨x_24, e24⟩ : ∃ z : Int, z = w32 (w32 (7200 * (S 0 10)) + S 5 (S 0 10)) := ⟨_, rfl⟩
          have h := h x_24 e24
          have t24 := t23.trans e24.symm
          refine lv_istore (lv' := [(7, .int v23), (0, .ref (G.2.2 1042)), (1, .int xv1), (2, .int xv2), (3, .int xv3), (4, .int xv4), (5, .int xv5), (6, .int xv6)]) C.1.1 C.1.2.1 dX8_makeBridges_186 hl (by decide) rfl (fun ls hl => ?_)
          refine lv_aload_n C.1.1 C.1.2.1 dX8_makeBridges_188 rfl (lv_at hl 1 rfl) ?_
          refine y_getA C fl_X8_143 hw (ocr SB) rfl (o := 35) rfl dX8_makeBridges_189 ?_
          refine lv_iload C.1.1 C.1.2.1 dX8_makeBridges_192 (lv_at hl 0 rfl) ?_
          refine lv_iload_n C.1.1 C.1.2.1 dX8_makeBridges_194 rfl (lv_at hl 4 rfl) ?_
          obtain ⟨b26, h⟩ := h
          obtain ⟨S_26, e26⟩ : ∃ z : St, z = up S 35 x_24 x3 := ⟨_, rfl⟩
          have h := h S_26 e26
          refine y_iast C hw hS (acr_44 SB) t24 xt3 b26 dX8_makeBridges_195 (fun H locs hw hS => ?_)
          have hw : Wd G ((injR SB) S_26) H := by rw [e26]; exact hw
          refine lv_aload_n C.1.1 C.1.2.1 dX8_makeBridges_196 rfl (lv_at hl 1 rfl) ?_
          refine y_getA C fl_X8_146 hw (ocr SB) rfl (o := 36) rfl dX8_makeBridges_197 ?_
          refine lv_iload C.1.1 C.1.2.1 dX8_makeBridges_200 (lv_at hl 0 rfl) ?_
          refine lv_iload C.1.1 C.1.2.1 dX8_makeBridges_202 (lv_at hl 7 rfl) ?_
          obtain ⟨b28, h⟩ := h
          obtain ⟨S_28, e28⟩ : ∃ z : St, z = up S_26 36 x_24 x6 := ⟨_, rfl⟩
          have h := h S_28 e28
          refine y_iast C hw hS (acr_45 SB) t24 xt6 b28 dX8_makeBridges_204 (fun H locs hw hS => ?_)
          have hw : Wd G ((injR SB) S_28) H := by rw [e28]; exact hw
          refine lv_aload_n C.1.1 C.1.2.1 dX8_makeBridges_205 rfl (lv_at hl 1 rfl) ?_
          refine y_getA C fl_X8_52 hw (ocr SB) rfl (o := 5) rfl dX8_makeBridges_206 ?_
          refine lv_aload_n C.1.1 C.1.2.1 dX8_makeBridges_209 rfl (lv_at hl 1 rfl) ?_
          refine y_getI C fl_X8_208 hw (ocr SB) rfl dX8_makeBridges_210 (fun v30 t30 => ?_)
          refine lv_dup2_11 C.1.1 C.1.2.1 dX8_makeBridges_213 rfl rfl ?_
          obtain ⟨b31, h⟩ := h
          refine y_iald C hw (acr_14 SB) t30 b31 dX8_makeBridges_214 (fun v31 t31 => ?_)
          refine y_iconst C dX8_makeBridges_215 ⟨by decide, by decide⟩ (fun v32 t32 => ?_)
          refine y_iadd C t31 t32 dX8_makeBridges_216 (fun v33 t33 => ?_)
          obtain ⟨b34, h⟩ := h
          obtain ⟨S_34, e34⟩ : ∃ z : St, z = up S_28 5 (S_28 0 10) (w32 (S_28 5 (S_28 0 10) + 1)) := ⟨_, rfl⟩
          have h := h S_34 e34
          refine y_iast C hw hS (acr_14 SB) t30 t33 b34 dX8_makeBridges_217 (fun H locs hw hS => ?_)
          have hw : Wd G ((injR SB) S_34) H := by rw [e34]; exact hw
          refine lv_aload_n C.1.1 C.1.2.1 dX8_makeBridges_218 rfl (lv_at hl 1 rfl) ?_
          refine y_getA C fl_X8_119 hw (ocr SB) rfl (o := 27) rfl dX8_makeBridges_219 ?_
          refine lv_iload_n C.1.1 C.1.2.1 dX8_makeBridges_222 rfl (lv_at hl 3 rfl) ?_
          refine lv_dup2_11 C.1.1 C.1.2.1 dX8_makeBridges_223 rfl rfl ?_
          obtain ⟨b36, h⟩ := h
          refine y_iald C hw (acr_36 SB) xt2 b36 dX8_makeBridges_224 (fun v36 t36 => ?_)
          refine y_iconst C dX8_makeBridges_225 ⟨by decide, by decide⟩ (fun v37 t37 => ?_)
          refine y_iadd C t36 t37 dX8_makeBridges_226 (fun v38 t38 => ?_)
          obtain ⟨b39, h⟩ := h
          obtain ⟨S_39, e39⟩ : ∃ z : St, z = up S_34 27 x2 (w32 (S_34 27 x2 + 1)) := ⟨_, rfl⟩
          have h := h S_39 e39
          refine y_iast C hw hS (acr_36 SB) xt2 t38 b39 dX8_makeBridges_227 (fun H locs hw hS => ?_)
          have hw : Wd G ((injR SB) S_39) H := by rw [e39]; exact hw
          obtain ⟨x_40, e40⟩ : ∃ z : Int, z = w32 (x6 + 1) := ⟨_, rfl⟩
          have h := h x_40 e40
          obtain ⟨v40, t40, g40⟩ : ∃ z : Int32, z.toInt = x_40 ∧ xv6 + Int32.ofInt 1 = z := ⟨_, (ti_inc xt6 ⟨by decide, by decide⟩).trans e40.symm, rfl⟩
          refine lv_iinc (v := v40) (lv' := [(6, .int v40), (7, .int v23), (0, .ref (G.2.2 1042)), (1, .int xv1), (2, .int xv2), (3, .int xv3), (4, .int xv4), (5, .int xv5)]) C.1.1 C.1.2.1 dX8_makeBridges_228 hl (k := 7) rfl g40 (by decide) rfl (fun ls hl => ?_)
          refine lv_goto (tgt := 118) C.1.1 C.1.2.1 dX8_makeBridges_231 (by decide) ?_
          exact hP118 t40 hw hS (lv_sub hl [2, 3, 4, 5, 6, 7, 0] rfl) h
set_option maxHeartbeats 4000000 in
set_option maxRecDepth 10000 in
theorem uX8_makeBridges_118 {p : Program} {l : Launch} {e : Env} {s : State} {m : MethodId} {args : Array Value} {below : List Frame} {meth : Method} {c : Code} {G : GG} {SB : St} (C : Cx p s m args meth c G RX8 cX8_makeBridges 8 none) {S : St} {H : Heap} {locs : List Loc} {ls : Array Slot} {P35 : Int → St → Prop} {P80 : Int → St → Prop} {k : St → Prop} (hw : Wd G ((injR SB) S) H) (hS : va_S (AG G) s.heap H locs) {xv1 : Int32} {x1 : Int} (xt1 : xv1.toInt = x1) {xv2 : Int32} {x2 : Int} (xt2 : xv2.toInt = x2) {xv3 : Int32} {x3 : Int} (xt3 : xv3.toInt = x3) {xv4 : Int32} {x4 : Int} (xt4 : xv4.toInt = x4) {xv5 : Int32} {x5 : Int} (xt5 : xv5.toInt = x5) {xv6 : Int32} {x6 : Int} (xt6 : xv6.toInt = x6) (hl : lv_has ls 8 [(0, .ref (G.2.2 1042)), (1, .int xv1), (2, .int xv2), (3, .int xv3), (4, .int xv4), (5, .int xv5), (6, .int xv6)]) (hP35 : ∀ {H : Heap} {locs : List Loc} {ls : Array Slot} {Sy : St} {yv3 : Int32} {y3 : Int}, yv3.toInt = y3 → Wd G ((injR SB) Sy) H → va_S (AG G) s.heap H locs → lv_has ls 8 [(0, .ref (G.2.2 1042)), (1, .int xv1), (2, .int xv2), (3, .int yv3)] → P35 y3 Sy → W p l e (rmF 6 136) s m args below meth c H locs 0 0 (MQ below (QcV G (injR SB) k) args s 0 0 (AG G)) (F0 m 35 ls [])) (hP80 : ∀ {H : Heap} {locs : List Loc} {ls : Array Slot} {Sy : St} {yv4 : Int32} {y4 : Int}, yv4.toInt = y4 → Wd G ((injR SB) Sy) H → va_S (AG G) s.heap H locs → lv_has ls 8 [(0, .ref (G.2.2 1042)), (1, .int xv1), (2, .int xv2), (3, .int xv3), (4, .int yv4)] → P80 y4 Sy → W p l e (rmF 6 136) s m args below meth c H locs 0 0 (MQ below (QcV G (injR SB) k) args s 0 0 (AG G)) (F0 m 80 ls [])) (h : wX8_makeBridges_118 S x1 x2 x3 x4 x5 x6 P35 P80 k) : W p l e (rmF 6 136) s m args below meth c H locs 0 0 (MQ below (QcV G (injR SB) k) args s 0 0 (AG G)) (F0 m 118 ls []) := by
  have key : ∀ (n : Nat) {H : Heap} {locs : List Loc} {ls : Array Slot} {S : St} {xv6 : Int32} {x6 : Int}, xv6.toInt = x6 → Wd G ((injR SB) S) H → va_S (AG G) s.heap H locs → lv_has ls 8 [(0, .ref (G.2.2 1042)), (1, .int xv1), (2, .int xv2), (3, .int xv3), (4, .int xv4), (5, .int xv5), (6, .int xv6)] → itP (fun (P : Int × St → Prop) (a : Int × St) => wX8_makeBridges_118_b a.2 x1 x2 x3 x4 x5 a.1 P35 P80 (fun b0 b1 => P (b0, b1)) k) n (x6, S) → W p l e (rmF 6 136) s m args below meth c H locs 0 0 (MQ below (QcV G (injR SB) k) args s 0 0 (AG G)) (F0 m 118 ls []) := by
    intro n
    induction n with
    | zero => intro H locs ls S xv6 x6 xt6 hw hS hl h; exact h.elim
    | succ n ih =>
      intro H locs ls S xv6 x6 xt6 hw hS hl h
      exact uX8_makeBridges_118_b C hw hS xt1 xt2 xt3 xt4 xt5 xt6 hl hP35 hP80 (P118 := fun b0 b1 => itP _ n (b0, b1)) (fun q0 hw hS hl h => ih q0 hw hS hl h) h
  obtain ⟨n, hn⟩ := h
  exact key n xt6 hw hS hl hn
set_option maxHeartbeats 4000000 in
set_option maxRecDepth 10000 in
theorem uX8_makeBridges_80_b {p : Program} {l : Launch} {e : Env} {s : State} {m : MethodId} {args : Array Value} {below : List Frame} {meth : Method} {c : Code} {G : GG} {SB : St} (C : Cx p s m args meth c G RX8 cX8_makeBridges 8 none) {S : St} {H : Heap} {locs : List Loc} {ls : Array Slot} {P35 : Int → St → Prop} {P80 : Int → St → Prop} {k : St → Prop} (hw : Wd G ((injR SB) S) H) (hS : va_S (AG G) s.heap H locs) {xv1 : Int32} {x1 : Int} (xt1 : xv1.toInt = x1) {xv2 : Int32} {x2 : Int} (xt2 : xv2.toInt = x2) {xv3 : Int32} {x3 : Int} (xt3 : xv3.toInt = x3) {xv4 : Int32} {x4 : Int} (xt4 : xv4.toInt = x4) (hl : lv_has ls 8 [(0, .ref (G.2.2 1042)), (1, .int xv1), (2, .int xv2), (3, .int xv3), (4, .int xv4)]) (hP35 : ∀ {H : Heap} {locs : List Loc} {ls : Array Slot} {Sy : St} {yv3 : Int32} {y3 : Int}, yv3.toInt = y3 → Wd G ((injR SB) Sy) H → va_S (AG G) s.heap H locs → lv_has ls 8 [(0, .ref (G.2.2 1042)), (1, .int xv1), (2, .int xv2), (3, .int yv3)] → P35 y3 Sy → W p l e (rmF 6 136) s m args below meth c H locs 0 0 (MQ below (QcV G (injR SB) k) args s 0 0 (AG G)) (F0 m 35 ls [])) (hP80 : ∀ {H : Heap} {locs : List Loc} {ls : Array Slot} {Sy : St} {yv4 : Int32} {y4 : Int}, yv4.toInt = y4 → Wd G ((injR SB) Sy) H → va_S (AG G) s.heap H locs → lv_has ls 8 [(0, .ref (G.2.2 1042)), (1, .int xv1), (2, .int xv2), (3, .int xv3), (4, .int yv4)] → P80 y4 Sy → W p l e (rmF 6 136) s m args below meth c H locs 0 0 (MQ below (QcV G (injR SB) k) args s 0 0 (AG G)) (F0 m 80 ls [])) (h : wX8_makeBridges_80_b S x1 x2 x3 x4 P35 P80 k) : W p l e (rmF 6 136) s m args below meth c H locs 0 0 (MQ below (QcV G (injR SB) k) args s 0 0 (AG G)) (F0 m 80 ls []) := by
  refine lv_iload C.1.1 C.1.2.1 dX8_makeBridges_80 (lv_at hl 4 rfl) ?_
  refine lv_aload_n C.1.1 C.1.2.1 dX8_makeBridges_82 rfl (lv_at hl 0 rfl) ?_
  refine y_getA C fl_X8_97 hw (ocr SB) rfl (o := 20) rfl dX8_makeBridges_83 ?_
  refine lv_iload_n C.1.1 C.1.2.1 dX8_makeBridges_86 rfl (lv_at hl 2 rfl) ?_
  obtain ⟨b2, h⟩ := h
  refine y_iald C hw (acr_29 SB) xt2 b2 dX8_makeBridges_87 (fun v2 t2 => ?_)
  refine y_icmp_ge C xt4 t2 dX8_makeBridges_88 (tgt := 240) (by decide) (fun c3 => ?_) (fun c3 => ?_)
  · have h := h.1 c3
    obtain ⟨x_4, e4⟩ : ∃ z : Int, z = w32 (x3 + 1) := ⟨_, rfl⟩
    have h := h x_4 e4
    obtain ⟨v4, t4, g4⟩ : ∃ z : Int32, z.toInt = x_4 ∧ xv3 + Int32.ofInt 1 = z := ⟨_, (ti_inc xt3 ⟨by decide, by decide⟩).trans e4.symm, rfl⟩
    refine lv_iinc (v := v4) (lv' := [(3, .int v4), (0, .ref (G.2.2 1042)), (1, .int xv1), (2, .int xv2), (4, .int xv4)]) C.1.1 C.1.2.1 dX8_makeBridges_240 hl (k := 3) rfl g4 (by decide) rfl (fun ls hl => ?_)
    refine lv_goto (tgt := 35) C.1.1 C.1.2.1 dX8_makeBridges_243 (by decide) ?_
    exact hP35 t4 hw hS (lv_sub hl [1, 2, 3, 0] rfl) h
  · have h := h.2 c3
    refine lv_aload_n C.1.1 C.1.2.1 dX8_makeBridges_91 rfl (lv_at hl 0 rfl) ?_
    refine lv_aload_n C.1.1 C.1.2.1 dX8_makeBridges_92 rfl (lv_at hl 0 rfl) ?_
    refine y_getA C fl_X8_100 hw (ocr SB) rfl (o := 21) rfl dX8_makeBridges_93 ?_
    refine y_bipush C dX8_makeBridges_96 ⟨by decide, by decide⟩ (fun v6 t6 => ?_)
    refine lv_iload_n C.1.1 C.1.2.1 dX8_makeBridges_98 rfl (lv_at hl 2 rfl) ?_
    refine y_imul C t6 xt2 dX8_makeBridges_99 (fun v7 t7 => ?_)
    refine lv_iload C.1.1 C.1.2.1 dX8_makeBridges_100 (lv_at hl 4 rfl) ?_
    refine y_iadd C t7 xt4 dX8_makeBridges_102 (fun v8 t8 => ?_)
    obtain ⟨b9, h⟩ := h
    refine y_iald C hw (acr_30 SB) t8 b9 dX8_makeBridges_103 (fun v9 t9 => ?_)
    refine y_cVIp C (As := [.int v9]) (rest := []) ml_X8_214 (kX8_t l G SB S t9 h) (ocr SB) (T := TX8) (N := 60) rfl (by decide) ⟨(Nat.le_of_ble_eq_true rfl), (Nat.le_of_ble_eq_true rfl)⟩ hl.1 rfl rfl (Nat.le_of_ble_eq_true rfl) hw hS dX8_makeBridges_104 (fun v10 x_10 H locs t10 h hw hS => ?_)
    refine lv_istore (lv' := [(5, .int v10), (0, .ref (G.2.2 1042)), (1, .int xv1), (2, .int xv2), (3, .int xv3), (4, .int xv4)]) C.1.1 C.1.2.1 dX8_makeBridges_107 hl (by decide) rfl (fun ls hl => ?_)
    refine lv_aload_n C.1.1 C.1.2.1 dX8_makeBridges_109 rfl (lv_at hl 1 rfl) ?_
    refine y_getA C fl_X8_110 hw (ocr SB) rfl (o := 24) rfl dX8_makeBridges_110 ?_
    refine lv_iload C.1.1 C.1.2.1 dX8_makeBridges_113 (lv_at hl 0 rfl) ?_
    obtain ⟨b12, h⟩ := h
    refine y_iald C hw (acr_33 SB) t10 b12 dX8_makeBridges_115 (fun v12 t12 => ?_)
    obtain ⟨x_13, e13⟩ : ∃ z : Int, z = S 24 x_10 := ⟨_, rfl⟩
    have h := h x_13 e13
    have t13 := t12.trans e13.symm
    refine lv_istore (lv' := [(6, .int v12), (5, .int v10), (0, .ref (G.2.2 1042)), (1, .int xv1), (2, .int xv2), (3, .int xv3), (4, .int xv4)]) C.1.1 C.1.2.1 dX8_makeBridges_116 hl (by decide) rfl (fun ls hl => ?_)
    exact uX8_makeBridges_118 C hw hS xt1 xt2 xt3 xt4 t10 t13 (lv_sub hl [2, 3, 4, 5, 6, 1, 0] rfl) hP35 hP80 h
set_option maxHeartbeats 4000000 in
set_option maxRecDepth 10000 in
theorem uX8_makeBridges_80 {p : Program} {l : Launch} {e : Env} {s : State} {m : MethodId} {args : Array Value} {below : List Frame} {meth : Method} {c : Code} {G : GG} {SB : St} (C : Cx p s m args meth c G RX8 cX8_makeBridges 8 none) {S : St} {H : Heap} {locs : List Loc} {ls : Array Slot} {P35 : Int → St → Prop} {k : St → Prop} (hw : Wd G ((injR SB) S) H) (hS : va_S (AG G) s.heap H locs) {xv1 : Int32} {x1 : Int} (xt1 : xv1.toInt = x1) {xv2 : Int32} {x2 : Int} (xt2 : xv2.toInt = x2) {xv3 : Int32} {x3 : Int} (xt3 : xv3.toInt = x3) {xv4 : Int32} {x4 : Int} (xt4 : xv4.toInt = x4) (hl : lv_has ls 8 [(0, .ref (G.2.2 1042)), (1, .int xv1), (2, .int xv2), (3, .int xv3), (4, .int xv4)]) (hP35 : ∀ {H : Heap} {locs : List Loc} {ls : Array Slot} {Sy : St} {yv3 : Int32} {y3 : Int}, yv3.toInt = y3 → Wd G ((injR SB) Sy) H → va_S (AG G) s.heap H locs → lv_has ls 8 [(0, .ref (G.2.2 1042)), (1, .int xv1), (2, .int xv2), (3, .int yv3)] → P35 y3 Sy → W p l e (rmF 6 136) s m args below meth c H locs 0 0 (MQ below (QcV G (injR SB) k) args s 0 0 (AG G)) (F0 m 35 ls [])) (h : wX8_makeBridges_80 S x1 x2 x3 x4 P35 k) : W p l e (rmF 6 136) s m args below meth c H locs 0 0 (MQ below (QcV G (injR SB) k) args s 0 0 (AG G)) (F0 m 80 ls []) := by
  have key : ∀ (n : Nat) {H : Heap} {locs : List Loc} {ls : Array Slot} {S : St} {xv4 : Int32} {x4 : Int}, xv4.toInt = x4 → Wd G ((injR SB) S) H → va_S (AG G) s.heap H locs → lv_has ls 8 [(0, .ref (G.2.2 1042)), (1, .int xv1), (2, .int xv2), (3, .int xv3), (4, .int xv4)] → itP (fun (P : Int × St → Prop) (a : Int × St) => wX8_makeBridges_80_b a.2 x1 x2 x3 a.1 P35 (fun b0 b1 => P (b0, b1)) k) n (x4, S) → W p l e (rmF 6 136) s m args below meth c H locs 0 0 (MQ below (QcV G (injR SB) k) args s 0 0 (AG G)) (F0 m 80 ls []) := by
    intro n
    induction n with
    | zero => intro H locs ls S xv4 x4 xt4 hw hS hl h; exact h.elim
    | succ n ih =>
      intro H locs ls S xv4 x4 xt4 hw hS hl h
      exact uX8_makeBridges_80_b C hw hS xt1 xt2 xt3 xt4 hl hP35 (P80 := fun b0 b1 => itP _ n (b0, b1)) (fun q0 hw hS hl h => ih q0 hw hS hl h) h
  obtain ⟨n, hn⟩ := h
  exact key n xt4 hw hS hl hn
set_option maxHeartbeats 4000000 in
set_option maxRecDepth 10000 in
theorem uX8_makeBridges_35_b {p : Program} {l : Launch} {e : Env} {s : State} {m : MethodId} {args : Array Value} {below : List Frame} {meth : Method} {c : Code} {G : GG} {SB : St} (C : Cx p s m args meth c G RX8 cX8_makeBridges 8 none) {S : St} {H : Heap} {locs : List Loc} {ls : Array Slot}  {P35 : Int → St → Prop} {k : St → Prop} (hw : Wd G ((injR SB) S) H) (hS : va_S (AG G) s.heap H locs) {xv1 : Int32} {x1 : Int} (xt1 : xv1.toInt = x1) {xv2 : Int32} {x2 : Int} (xt2 : xv2.toInt = x2) {xv3 : Int32} {x3 : Int} (xt3 : xv3.toInt = x3) (hl : lv_has ls 8 [(0, .ref (G.2.2 1042)), (1, .int xv1), (2, .int xv2), (3, .int xv3)])  (hP35 : ∀ {H : Heap} {locs : List Loc} {ls : Array Slot} {Sy : St} {yv3 : Int32} {y3 : Int}, yv3.toInt = y3 → Wd G ((injR SB) Sy) H → va_S (AG G) s.heap H locs → lv_has ls 8 [(0, .ref (G.2.2 1042)), (1, .int xv1), (2, .int xv2), (3, .int yv3)] → P35 y3 Sy → W p l e (rmF 6 136) s m args below meth c H locs 0 0 (MQ below (QcV G (injR SB) k) args s 0 0 (AG G)) (F0 m 35 ls [])) (h : wX8_makeBridges_35_b S x1 x2 x3 P35 k) : W p l e (rmF 6 136) s m args below meth c H locs 0 0 (MQ below (QcV G (injR SB) k) args s 0 0 (AG G)) (F0 m 35 ls []) := by
  refine lv_iload_n C.1.1 C.1.2.1 dX8_makeBridges_35 rfl (lv_at hl 3 rfl) ?_
  refine lv_aload_n C.1.1 C.1.2.1 dX8_makeBridges_36 rfl (lv_at hl 0 rfl) ?_
  refine y_getA C fl_X8_110 hw (ocr SB) rfl (o := 24) rfl dX8_makeBridges_37 ?_
  refine lv_iload_n C.1.1 C.1.2.1 dX8_makeBridges_40 rfl (lv_at hl 2 rfl) ?_
  obtain ⟨b2, h⟩ := h
  refine y_iald C hw (acr_33 SB) xt2 b2 dX8_makeBridges_41 (fun v2 t2 => ?_)
  refine lv_aload_n C.1.1 C.1.2.1 dX8_makeBridges_42 rfl (lv_at hl 0 rfl) ?_
  refine y_getA C fl_X8_113 hw (ocr SB) rfl (o := 25) rfl dX8_makeBridges_43 ?_
  refine lv_iload_n C.1.1 C.1.2.1 dX8_makeBridges_46 rfl (lv_at hl 2 rfl) ?_
  obtain ⟨b4, h⟩ := h
  refine y_iald C hw (acr_34 SB) xt2 b4 dX8_makeBridges_47 (fun v4 t4 => ?_)
  refine y_iadd C t2 t4 dX8_makeBridges_48 (fun v5 t5 => ?_)
  refine y_icmp_ge C xt3 t5 dX8_makeBridges_49 (tgt := 246) (by decide) (fun c6 => ?_) (fun c6 => ?_)
  · have h := h.1 c6
    exact y_vret C hw hS h dX8_makeBridges_246
  · have h := h.2 c6
    refine lv_aload_n C.1.1 C.1.2.1 dX8_makeBridges_52 rfl (lv_at hl 0 rfl) ?_
    refine y_getA C fl_X8_131 hw (ocr SB) rfl (o := 31) rfl dX8_makeBridges_53 ?_
    refine lv_aload_n C.1.1 C.1.2.1 dX8_makeBridges_56 rfl (lv_at hl 0 rfl) ?_
    refine lv_iload_n C.1.1 C.1.2.1 dX8_makeBridges_57 rfl (lv_at hl 3 rfl) ?_
    refine y_cVIp C (As := [.int xv3]) (rest := [.ref (G.2.2 (1073))]) ml_X8_218 (kX8_m l G SB S xt3 h) (ocr SB) (T := TX8) (N := 60) rfl (by decide) ⟨(Nat.le_of_ble_eq_true rfl), (Nat.le_of_ble_eq_true rfl)⟩ hl.1 rfl rfl (Nat.le_of_ble_eq_true rfl) hw hS dX8_makeBridges_58 (fun v8 x_8 H locs t8 h hw hS => ?_)
    obtain ⟨b9, h⟩ := h
    refine y_iald C hw (acr_40 SB) t8 b9 dX8_makeBridges_61 (fun v9 t9 => ?_)
    refine y_iconst C dX8_makeBridges_62 ⟨by decide, by decide⟩ (fun v10 t10 => ?_)
    refine y_icmp_eq C t9 t10 dX8_makeBridges_63 (tgt := 240) (by decide) (fun c11 => ?_) (fun c11 => ?_)
    · have h := h.1 c11
      obtain ⟨x_12, e12⟩ : ∃ z : Int, z = w32 (x3 + 1) := ⟨_, rfl⟩
      have h := h x_12 e12
      obtain ⟨v12, t12, g12⟩ : ∃ z : Int32, z.toInt = x_12 ∧ xv3 + Int32.ofInt 1 = z := ⟨_, (ti_inc xt3 ⟨by decide, by decide⟩).trans e12.symm, rfl⟩
      refine lv_iinc (v := v12) (lv' := [(3, .int v12), (0, .ref (G.2.2 1042)), (1, .int xv1), (2, .int xv2)]) C.1.1 C.1.2.1 dX8_makeBridges_240 hl (k := 3) rfl g12 (by decide) rfl (fun ls hl => ?_)
      refine lv_goto (tgt := 35) C.1.1 C.1.2.1 dX8_makeBridges_243 (by decide) ?_
      exact hP35 t12 hw hS (lv_sub hl [1, 2, 3, 0] rfl) h
    · have h := h.2 c11
      refine lv_aload_n C.1.1 C.1.2.1 dX8_makeBridges_66 rfl (lv_at hl 0 rfl) ?_
      refine lv_iload_n C.1.1 C.1.2.1 dX8_makeBridges_67 rfl (lv_at hl 3 rfl) ?_
      refine y_cVIp C (As := [.int xv3]) (rest := []) ml_X8_341 (kX8_isBare l G SB S xt3 h) (ocr SB) (T := TX8) (N := 60) rfl (by decide) ⟨(Nat.le_of_ble_eq_true rfl), (Nat.le_of_ble_eq_true rfl)⟩ hl.1 rfl rfl (Nat.le_of_ble_eq_true rfl) hw hS dX8_makeBridges_68 (fun v13 x_13 H locs t13 h hw hS => ?_)
      refine y_if_ne C t13 dX8_makeBridges_71 (tgt := 77) (by decide) (fun c14 => ?_) (fun c14 => ?_)
      · have h := h.1 c14
        refine y_iconst C dX8_makeBridges_77 ⟨by decide, by decide⟩ (fun v15 t15 => ?_)
        refine lv_istore (lv' := [(4, .int v15), (0, .ref (G.2.2 1042)), (1, .int xv1), (2, .int xv2), (3, .int xv3)]) C.1.1 C.1.2.1 dX8_makeBridges_78 hl (by decide) rfl (fun ls hl => ?_)
        exact uX8_makeBridges_80 C hw hS xt1 xt2 xt3 t15 (lv_sub hl [1, 2, 3, 4, 0] rfl) hP35 h
      · have h := h.2 c14
        refine lv_goto (tgt := 240) C.1.1 C.1.2.1 dX8_makeBridges_74 (by decide) ?_
        obtain ⟨x_16, e16⟩ : ∃ z : Int, z = w32 (x3 + 1) := ⟨_, rfl⟩
        have h := h x_16 e16
        obtain ⟨v16, t16, g16⟩ : ∃ z : Int32, z.toInt = x_16 ∧ xv3 + Int32.ofInt 1 = z := ⟨_, (ti_inc xt3 ⟨by decide, by decide⟩).trans e16.symm, rfl⟩
        refine lv_iinc (v := v16) (lv' := [(3, .int v16), (0, .ref (G.2.2 1042)), (1, .int xv1), (2, .int xv2)]) C.1.1 C.1.2.1 dX8_makeBridges_240 hl (k := 3) rfl g16 (by decide) rfl (fun ls hl => ?_)
        refine lv_goto (tgt := 35) C.1.1 C.1.2.1 dX8_makeBridges_243 (by decide) ?_
        exact hP35 t16 hw hS (lv_sub hl [1, 2, 3, 0] rfl) h
set_option maxHeartbeats 4000000 in
set_option maxRecDepth 10000 in
theorem uX8_makeBridges_35 {p : Program} {l : Launch} {e : Env} {s : State} {m : MethodId} {args : Array Value} {below : List Frame} {meth : Method} {c : Code} {G : GG} {SB : St} (C : Cx p s m args meth c G RX8 cX8_makeBridges 8 none) {S : St} {H : Heap} {locs : List Loc} {ls : Array Slot}  {k : St → Prop} (hw : Wd G ((injR SB) S) H) (hS : va_S (AG G) s.heap H locs) {xv1 : Int32} {x1 : Int} (xt1 : xv1.toInt = x1) {xv2 : Int32} {x2 : Int} (xt2 : xv2.toInt = x2) {xv3 : Int32} {x3 : Int} (xt3 : xv3.toInt = x3) (hl : lv_has ls 8 [(0, .ref (G.2.2 1042)), (1, .int xv1), (2, .int xv2), (3, .int xv3)])  (h : wX8_makeBridges_35 S x1 x2 x3 k) : W p l e (rmF 6 136) s m args below meth c H locs 0 0 (MQ below (QcV G (injR SB) k) args s 0 0 (AG G)) (F0 m 35 ls []) := by
  have key : ∀ (n : Nat) {H : Heap} {locs : List Loc} {ls : Array Slot} {S : St} {xv3 : Int32} {x3 : Int}, xv3.toInt = x3 → Wd G ((injR SB) S) H → va_S (AG G) s.heap H locs → lv_has ls 8 [(0, .ref (G.2.2 1042)), (1, .int xv1), (2, .int xv2), (3, .int xv3)] → itP (fun (P : Int × St → Prop) (a : Int × St) => wX8_makeBridges_35_b a.2 x1 x2 a.1 (fun b0 b1 => P (b0, b1)) k) n (x3, S) → W p l e (rmF 6 136) s m args below meth c H locs 0 0 (MQ below (QcV G (injR SB) k) args s 0 0 (AG G)) (F0 m 35 ls []) := by
    intro n
    induction n with
    | zero => intro H locs ls S xv3 x3 xt3 hw hS hl h; exact h.elim
    | succ n ih =>
      intro H locs ls S xv3 x3 xt3 hw hS hl h
      exact uX8_makeBridges_35_b C hw hS xt1 xt2 xt3 hl  (P35 := fun b0 b1 => itP _ n (b0, b1)) (fun q0 hw hS hl h => ih q0 hw hS hl h) h
  obtain ⟨n, hn⟩ := h
  exact key n xt3 hw hS hl hn
set_option maxHeartbeats 4000000 in
set_option maxRecDepth 10000 in
theorem uX8_makeBridges_0 {p : Program} {l : Launch} {e : Env} {s : State} {m : MethodId} {args : Array Value} {below : List Frame} {meth : Method} {c : Code} {G : GG} {SB : St} (C : Cx p s m args meth c G RX8 cX8_makeBridges 8 none) {S : St} {H : Heap} {locs : List Loc} {ls : Array Slot}  {k : St → Prop} (hw : Wd G ((injR SB) S) H) (hS : va_S (AG G) s.heap H locs) {xv1 : Int32} {x1 : Int} (xt1 : xv1.toInt = x1) (hl : lv_has ls 8 [(0, .ref (G.2.2 1042)), (1, .int xv1)])  (h : wX8_makeBridges_0 S x1 k) : W p l e (rmF 6 136) s m args below meth c H locs 0 0 (MQ below (QcV G (injR SB) k) args s 0 0 (AG G)) (F0 m 0 ls []) := by
  refine lv_aload_n C.1.1 C.1.2.1 dX8_makeBridges_0 rfl (lv_at hl 0 rfl) ?_
  refine lv_iload_n C.1.1 C.1.2.1 dX8_makeBridges_1 rfl (lv_at hl 1 rfl) ?_
  refine y_cVIp C (As := [.int xv1]) (rest := []) ml_X8_214 (kX8_t l G SB S xt1 h) (ocr SB) (T := TX8) (N := 60) rfl (by decide) ⟨(Nat.le_of_ble_eq_true rfl), (Nat.le_of_ble_eq_true rfl)⟩ hl.1 rfl rfl (Nat.le_of_ble_eq_true rfl) hw hS dX8_makeBridges_2 (fun v1 x_1 H locs t1 h hw hS => ?_)
  refine lv_istore_n (lv' := [(2, .int v1), (0, .ref (G.2.2 1042)), (1, .int xv1)]) C.1.1 C.1.2.1 dX8_makeBridges_5 rfl hl (by decide) rfl (fun ls hl => ?_)
  refine lv_aload_n C.1.1 C.1.2.1 dX8_makeBridges_6 rfl (lv_at hl 1 rfl) ?_
  refine y_getA C fl_X8_116 hw (ocr SB) rfl (o := 26) rfl dX8_makeBridges_7 ?_
  refine lv_iload_n C.1.1 C.1.2.1 dX8_makeBridges_10 rfl (lv_at hl 0 rfl) ?_
  refine lv_aload_n C.1.1 C.1.2.1 dX8_makeBridges_11 rfl (lv_at hl 1 rfl) ?_
  refine y_getA C fl_X8_52 hw (ocr SB) rfl (o := 5) rfl dX8_makeBridges_12 ?_
  refine lv_aload_n C.1.1 C.1.2.1 dX8_makeBridges_15 rfl (lv_at hl 1 rfl) ?_
  refine y_getI C fl_X8_208 hw (ocr SB) rfl dX8_makeBridges_16 (fun v4 t4 => ?_)
  obtain ⟨b5, h⟩ := h
  refine y_iald C hw (acr_14 SB) t4 b5 dX8_makeBridges_19 (fun v5 t5 => ?_)
  obtain ⟨b6, h⟩ := h
  obtain ⟨S_6, e6⟩ : ∃ z : St, z = up S 26 x_1 (S 5 (S 0 10)) := ⟨_, rfl⟩
  have h := h S_6 e6
  refine y_iast C hw hS (acr_35 SB) t1 t5 b6 dX8_makeBridges_20 (fun H locs hw hS => ?_)
  have hw : Wd G ((injR SB) S_6) H := by rw [e6]; exact hw
  refine lv_aload_n C.1.1 C.1.2.1 dX8_makeBridges_21 rfl (lv_at hl 1 rfl) ?_
  refine y_getA C fl_X8_119 hw (ocr SB) rfl (o := 27) rfl dX8_makeBridges_22 ?_
  refine lv_iload_n C.1.1 C.1.2.1 dX8_makeBridges_25 rfl (lv_at hl 0 rfl) ?_
  refine y_iconst C dX8_makeBridges_26 ⟨by decide, by decide⟩ (fun v8 t8 => ?_)
  obtain ⟨b9, h⟩ := h
  obtain ⟨S_9, e9⟩ : ∃ z : St, z = up S_6 27 x_1 0 := ⟨_, rfl⟩
  have h := h S_9 e9
  refine y_iast C hw hS (acr_36 SB) t1 t8 b9 dX8_makeBridges_27 (fun H locs hw hS => ?_)
  have hw : Wd G ((injR SB) S_9) H := by rw [e9]; exact hw
  refine lv_aload_n C.1.1 C.1.2.1 dX8_makeBridges_28 rfl (lv_at hl 1 rfl) ?_
  refine y_getA C fl_X8_110 hw (ocr SB) rfl (o := 24) rfl dX8_makeBridges_29 ?_
  refine lv_iload_n C.1.1 C.1.2.1 dX8_makeBridges_32 rfl (lv_at hl 0 rfl) ?_
  obtain ⟨b11, h⟩ := h
  refine y_iald C hw (acr_33 SB) t1 b11 dX8_makeBridges_33 (fun v11 t11 => ?_)
  obtain ⟨x_12, e12⟩ : ∃ z : Int, z = S_9 24 x_1 := ⟨_, rfl⟩
  have h := h x_12 e12
  have t12 := t11.trans e12.symm
  refine lv_istore_n (lv' := [(3, .int v11), (2, .int v1), (0, .ref (G.2.2 1042)), (1, .int xv1)]) C.1.1 C.1.2.1 dX8_makeBridges_34 rfl hl (by decide) rfl (fun ls hl => ?_)
  exact uX8_makeBridges_35 C hw hS xt1 t1 t12 (lv_sub hl [2, 3, 1, 0] rfl)  h
theorem kX8_makeBridges (l : Launch) (G : GG) (SB S : St) {xv1 : Int32} {x1 : Int} (xt1 : xv1.toInt = x1) {k : St → Prop} (h : wX8_makeBridges S x1 k) : CnV l yX8_makeBridges cX8_makeBridges 8 none 6 136 G (injR SB) [.ref (G.2.2 1042), .int xv1] S k :=
  cn_body (by decide +kernel) (Nat.le_of_ble_eq_true rfl) (fun p e s m args below meth c ls C hw hl => uX8_makeBridges_0 C hw va_S.rf xt1 (lv_sub hl [0, 1] rfl) h)
set_option maxHeartbeats 4000000 in
set_option maxRecDepth 10000 in
theorem uX8_close_0 {p : Program} {l : Launch} {e : Env} {s : State} {m : MethodId} {args : Array Value} {below : List Frame} {meth : Method} {c : Code} {G : GG} {SB : St} (C : Cx p s m args meth c G RX8 cX8_close 3 none) {S : St} {H : Heap} {locs : List Loc} {ls : Array Slot}  {k : St → Prop} (hw : Wd G ((injR SB) S) H) (hS : va_S (AG G) s.heap H locs) {xv1 : Int32} {x1 : Int} (xt1 : xv1.toInt = x1) (hl : lv_has ls 3 [(0, .ref (G.2.2 1042)), (1, .int xv1)])  (h : wX8_close_0 S x1 k) : W p l e (rmF 7 163) s m args below meth c H locs 0 0 (MQ below (QcV G (injR SB) k) args s 0 0 (AG G)) (F0 m 0 ls []) := by
  refine lv_aload_n C.1.1 C.1.2.1 dX8_close_0 rfl (lv_at hl 0 rfl) ?_
  refine lv_iload_n C.1.1 C.1.2.1 dX8_close_1 rfl (lv_at hl 1 rfl) ?_
  refine y_cVI C (As := [.int xv1]) (rest := []) ml_X8_353 (kX8_isTorn l G SB S xt1 h) (ocr SB) (T := TX8) (N := 60) rfl (by decide) ⟨(Nat.le_of_ble_eq_true rfl), (Nat.le_of_ble_eq_true rfl)⟩ hl.1 rfl rfl (Nat.le_of_ble_eq_true rfl) hw hS dX8_close_2 (fun v1 x_1 S_1 H locs t1 h hw hS => ?_)
  refine lv_istore_n (lv' := [(2, .int v1), (0, .ref (G.2.2 1042)), (1, .int xv1)]) C.1.1 C.1.2.1 dX8_close_5 rfl hl (by decide) rfl (fun ls hl => ?_)
  refine lv_aload_n C.1.1 C.1.2.1 dX8_close_6 rfl (lv_at hl 1 rfl) ?_
  refine lv_iload_n C.1.1 C.1.2.1 dX8_close_7 rfl (lv_at hl 2 rfl) ?_
  refine y_cVIp C (As := [.int xv1]) (rest := []) ml_X8_356 (kX8_isTwice l G SB S_1 xt1 h) (ocr SB) (T := TX8) (N := 60) rfl (by decide) ⟨(Nat.le_of_ble_eq_true rfl), (Nat.le_of_ble_eq_true rfl)⟩ hl.1 rfl rfl (Nat.le_of_ble_eq_true rfl) hw hS dX8_close_8 (fun v2 x_2 H locs t2 h hw hS => ?_)
  refine y_if_eq C t2 dX8_close_11 (tgt := 27) (by decide) (fun c3 => ?_) (fun c3 => ?_)
  · have h := h.1 c3
    refine lv_iload_n C.1.1 C.1.2.1 dX8_close_27 rfl (lv_at hl 0 rfl) ?_
    refine y_if_eq C t1 dX8_close_28 (tgt := 44) (by decide) (fun c4 => ?_) (fun c4 => ?_)
    · have h := h.1 c4
      refine lv_aload_n C.1.1 C.1.2.1 dX8_close_44 rfl (lv_at hl 1 rfl) ?_
      refine lv_iload_n C.1.1 C.1.2.1 dX8_close_45 rfl (lv_at hl 2 rfl) ?_
      refine y_cVV C (As := [.int xv1]) (rest := []) ml_X8_359 (kX8_findOver l G SB S_1 xt1 h) (ocr SB) (T := TX8) (N := 60) rfl (by decide) ⟨(Nat.le_of_ble_eq_true rfl), (Nat.le_of_ble_eq_true rfl)⟩ hl.1 rfl rfl (Nat.le_of_ble_eq_true rfl) hw hS dX8_close_46 (fun S_5 H locs h hw hS => ?_)
      refine lv_aload_n C.1.1 C.1.2.1 dX8_close_49 rfl (lv_at hl 1 rfl) ?_
      refine lv_iload_n C.1.1 C.1.2.1 dX8_close_50 rfl (lv_at hl 2 rfl) ?_
      refine y_cVIp C (As := [.int xv1]) (rest := []) ml_X8_362 (kX8_breaksAbove l G SB S_5 xt1 h) (ocr SB) (T := TX8) (N := 60) rfl (by decide) ⟨(Nat.le_of_ble_eq_true rfl), (Nat.le_of_ble_eq_true rfl)⟩ hl.1 rfl rfl (Nat.le_of_ble_eq_true rfl) hw hS dX8_close_51 (fun v6 x_6 H locs t6 h hw hS => ?_)
      refine y_if_eq C t6 dX8_close_54 (tgt := 70) (by decide) (fun c7 => ?_) (fun c7 => ?_)
      · have h := h.1 c7
        refine lv_aload_n C.1.1 C.1.2.1 dX8_close_70 rfl (lv_at hl 1 rfl) ?_
        refine lv_iload_n C.1.1 C.1.2.1 dX8_close_71 rfl (lv_at hl 2 rfl) ?_
        refine y_cVIp C (As := [.int xv1]) (rest := []) ml_X8_365 (kX8_clashes l G SB S_5 xt1 h) (ocr SB) (T := TX8) (N := 60) rfl (by decide) ⟨(Nat.le_of_ble_eq_true rfl), (Nat.le_of_ble_eq_true rfl)⟩ hl.1 rfl rfl (Nat.le_of_ble_eq_true rfl) hw hS dX8_close_72 (fun v8 x_8 H locs t8 h hw hS => ?_)
        refine y_if_eq C t8 dX8_close_75 (tgt := 91) (by decide) (fun c9 => ?_) (fun c9 => ?_)
        · have h := h.1 c9
          refine lv_aload_n C.1.1 C.1.2.1 dX8_close_91 rfl (lv_at hl 1 rfl) ?_
          refine lv_iload_n C.1.1 C.1.2.1 dX8_close_92 rfl (lv_at hl 2 rfl) ?_
          refine y_cVV C (As := [.int xv1]) (rest := []) ml_X8_368 (kX8_makeBridges l G SB S_5 xt1 h) (ocr SB) (T := TX8) (N := 60) rfl (by decide) ⟨(Nat.le_of_ble_eq_true rfl), (Nat.le_of_ble_eq_true rfl)⟩ hl.1 rfl rfl (Nat.le_of_ble_eq_true rfl) hw hS dX8_close_93 (fun S_10 H locs h hw hS => ?_)
          exact y_vret C hw hS h dX8_close_96
        · have h := h.2 c9
          refine lv_aload_n C.1.1 C.1.2.1 dX8_close_78 rfl (lv_at hl 1 rfl) ?_
          refine y_bipush C dX8_close_79 ⟨by decide, by decide⟩ (fun v11 t11 => ?_)
          refine lv_aload_n C.1.1 C.1.2.1 dX8_close_81 rfl (lv_at hl 1 rfl) ?_
          refine y_getI C fl_X8_172 hw (ocr SB) rfl dX8_close_82 (fun v12 t12 => ?_)
          refine y_cVV C (As := [.int v11, .int v12]) (rest := []) ml_X8_195 (kX8_fails l G SB S_5 t11 t12 h) (ocr SB) (T := TX8) (N := 60) rfl (by decide) ⟨(Nat.le_of_ble_eq_true rfl), (Nat.le_of_ble_eq_true rfl)⟩ hl.1 rfl rfl (Nat.le_of_ble_eq_true rfl) hw hS dX8_close_85 (fun S_13 H locs h hw hS => ?_)
          refine lv_goto (tgt := 96) C.1.1 C.1.2.1 dX8_close_88 (by decide) ?_
          exact y_vret C hw hS h dX8_close_96
      · have h := h.2 c7
        refine lv_aload_n C.1.1 C.1.2.1 dX8_close_57 rfl (lv_at hl 1 rfl) ?_
        refine y_bipush C dX8_close_58 ⟨by decide, by decide⟩ (fun v14 t14 => ?_)
        refine lv_aload_n C.1.1 C.1.2.1 dX8_close_60 rfl (lv_at hl 1 rfl) ?_
        refine y_getI C fl_X8_172 hw (ocr SB) rfl dX8_close_61 (fun v15 t15 => ?_)
        refine y_cVV C (As := [.int v14, .int v15]) (rest := []) ml_X8_195 (kX8_fails l G SB S_5 t14 t15 h) (ocr SB) (T := TX8) (N := 60) rfl (by decide) ⟨(Nat.le_of_ble_eq_true rfl), (Nat.le_of_ble_eq_true rfl)⟩ hl.1 rfl rfl (Nat.le_of_ble_eq_true rfl) hw hS dX8_close_64 (fun S_16 H locs h hw hS => ?_)
        refine lv_goto (tgt := 96) C.1.1 C.1.2.1 dX8_close_67 (by decide) ?_
        exact y_vret C hw hS h dX8_close_96
    · have h := h.2 c4
      refine lv_aload_n C.1.1 C.1.2.1 dX8_close_31 rfl (lv_at hl 1 rfl) ?_
      refine y_bipush C dX8_close_32 ⟨by decide, by decide⟩ (fun v17 t17 => ?_)
      refine lv_aload_n C.1.1 C.1.2.1 dX8_close_34 rfl (lv_at hl 1 rfl) ?_
      refine y_getI C fl_X8_172 hw (ocr SB) rfl dX8_close_35 (fun v18 t18 => ?_)
      refine y_cVV C (As := [.int v17, .int v18]) (rest := []) ml_X8_195 (kX8_fails l G SB S_1 t17 t18 h) (ocr SB) (T := TX8) (N := 60) rfl (by decide) ⟨(Nat.le_of_ble_eq_true rfl), (Nat.le_of_ble_eq_true rfl)⟩ hl.1 rfl rfl (Nat.le_of_ble_eq_true rfl) hw hS dX8_close_38 (fun S_19 H locs h hw hS => ?_)
      refine lv_goto (tgt := 96) C.1.1 C.1.2.1 dX8_close_41 (by decide) ?_
      exact y_vret C hw hS h dX8_close_96
  · have h := h.2 c3
    refine lv_aload_n C.1.1 C.1.2.1 dX8_close_14 rfl (lv_at hl 1 rfl) ?_
    refine y_bipush C dX8_close_15 ⟨by decide, by decide⟩ (fun v20 t20 => ?_)
    refine lv_aload_n C.1.1 C.1.2.1 dX8_close_17 rfl (lv_at hl 1 rfl) ?_
    refine y_getI C fl_X8_172 hw (ocr SB) rfl dX8_close_18 (fun v21 t21 => ?_)
    refine y_cVV C (As := [.int v20, .int v21]) (rest := []) ml_X8_195 (kX8_fails l G SB S_1 t20 t21 h) (ocr SB) (T := TX8) (N := 60) rfl (by decide) ⟨(Nat.le_of_ble_eq_true rfl), (Nat.le_of_ble_eq_true rfl)⟩ hl.1 rfl rfl (Nat.le_of_ble_eq_true rfl) hw hS dX8_close_21 (fun S_22 H locs h hw hS => ?_)
    refine lv_goto (tgt := 96) C.1.1 C.1.2.1 dX8_close_24 (by decide) ?_
    exact y_vret C hw hS h dX8_close_96
theorem kX8_close (l : Launch) (G : GG) (SB S : St) {xv1 : Int32} {x1 : Int} (xt1 : xv1.toInt = x1) {k : St → Prop} (h : wX8_close S x1 k) : CnV l yX8_close cX8_close 3 none 7 163 G (injR SB) [.ref (G.2.2 1042), .int xv1] S k :=
  cn_body (by decide +kernel) (Nat.le_of_ble_eq_true rfl) (fun p e s m args below meth c ls C hw hl => uX8_close_0 C hw va_S.rf xt1 (lv_sub hl [0, 1] rfl) h)
set_option maxHeartbeats 4000000 in
set_option maxRecDepth 10000 in
theorem uX8_readType_328 {p : Program} {l : Launch} {e : Env} {s : State} {m : MethodId} {args : Array Value} {below : List Frame} {meth : Method} {c : Code} {G : GG} {SB : St} (C : Cx p s m args meth c G RX8 cX8_readType 5 none) {S : St} {H : Heap} {locs : List Loc} {ls : Array Slot}  {k : St → Prop} (hw : Wd G ((injR SB) S) H) (hS : va_S (AG G) s.heap H locs)  (hl : lv_has ls 5 [(0, .ref (G.2.2 1042))])  (h : wX8_readType_328 S k) : W p l e (rmF 8 185) s m args below meth c H locs 0 0 (MQ below (QcV G (injR SB) k) args s 0 0 (AG G)) (F0 m 328 ls []) := by
  refine lv_aload_n C.1.1 C.1.2.1 dX8_readType_328 rfl (lv_at hl 0 rfl) ?_
  refine y_cVIp C (As := []) (rest := []) ml_X8_261 (kX8_goesOn l G SB S  h) (ocr SB) (T := TX8) (N := 60) rfl (by decide) ⟨(Nat.le_of_ble_eq_true rfl), (Nat.le_of_ble_eq_true rfl)⟩ hl.1 rfl rfl (Nat.le_of_ble_eq_true rfl) hw hS dX8_readType_329 (fun v1 x_1 H locs t1 h hw hS => ?_)
  refine y_if_eq C t1 dX8_readType_332 (tgt := 352) (by decide) (fun c2 => ?_) (fun c2 => ?_)
  · have h := h.1 c2
    exact y_vret C hw hS h dX8_readType_352
  · have h := h.2 c2
    refine lv_aload_n C.1.1 C.1.2.1 dX8_readType_335 rfl (lv_at hl 0 rfl) ?_
    refine y_getA C fl_X8_45 hw (ocr SB) rfl (o := 3) rfl dX8_readType_336 ?_
    refine lv_aload_n C.1.1 C.1.2.1 dX8_readType_339 rfl (lv_at hl 0 rfl) ?_
    refine y_getI C fl_X8_208 hw (ocr SB) rfl dX8_readType_340 (fun v4 t4 => ?_)
    refine lv_dup2_11 C.1.1 C.1.2.1 dX8_readType_343 rfl rfl ?_
    obtain ⟨b5, h⟩ := h
    refine y_iald C hw (acr_12 SB) t4 b5 dX8_readType_344 (fun v5 t5 => ?_)
    refine y_iconst C dX8_readType_345 ⟨by decide, by decide⟩ (fun v6 t6 => ?_)
    refine y_iadd C t5 t6 dX8_readType_346 (fun v7 t7 => ?_)
    obtain ⟨b8, h⟩ := h
    obtain ⟨S_8, e8⟩ : ∃ z : St, z = up S 3 (S 0 10) (w32 (S 3 (S 0 10) + 1)) := ⟨_, rfl⟩
    have h := h S_8 e8
    refine y_iast C hw hS (acr_12 SB) t4 t7 b8 dX8_readType_347 (fun H locs hw hS => ?_)
    have hw : Wd G ((injR SB) S_8) H := by rw [e8]; exact hw
    refine lv_aload_n C.1.1 C.1.2.1 dX8_readType_348 rfl (lv_at hl 0 rfl) ?_
    refine y_cVV C (As := []) (rest := []) ml_X8_202 (kX8_next l G SB S_8  h) (ocr SB) (T := TX8) (N := 60) rfl (by decide) ⟨(Nat.le_of_ble_eq_true rfl), (Nat.le_of_ble_eq_true rfl)⟩ hl.1 rfl rfl (Nat.le_of_ble_eq_true rfl) hw hS dX8_readType_349 (fun S_9 H locs h hw hS => ?_)
    exact y_vret C hw hS h dX8_readType_352
set_option maxHeartbeats 4000000 in
set_option maxRecDepth 10000 in
theorem uX8_readType_316 {p : Program} {l : Launch} {e : Env} {s : State} {m : MethodId} {args : Array Value} {below : List Frame} {meth : Method} {c : Code} {G : GG} {SB : St} (C : Cx p s m args meth c G RX8 cX8_readType 5 none) {S : St} {H : Heap} {locs : List Loc} {ls : Array Slot}  {k : St → Prop} (hw : Wd G ((injR SB) S) H) (hS : va_S (AG G) s.heap H locs) {xv1 : Int32} {x1 : Int} (xt1 : xv1.toInt = x1) (hl : lv_has ls 5 [(0, .ref (G.2.2 1042)), (1, .int xv1)])  (h : wX8_readType_316 S x1 k) : W p l e (rmF 8 185) s m args below meth c H locs 0 0 (MQ below (QcV G (injR SB) k) args s 0 0 (AG G)) (F0 m 316 ls []) := by
  refine lv_aload_n C.1.1 C.1.2.1 dX8_readType_316 rfl (lv_at hl 0 rfl) ?_
  refine y_cVIp C (As := []) (rest := []) ml_X8_261 (kX8_goesOn l G SB S  h) (ocr SB) (T := TX8) (N := 60) rfl (by decide) ⟨(Nat.le_of_ble_eq_true rfl), (Nat.le_of_ble_eq_true rfl)⟩ hl.1 rfl rfl (Nat.le_of_ble_eq_true rfl) hw hS dX8_readType_317 (fun v1 x_1 H locs t1 h hw hS => ?_)
  refine y_if_eq C t1 dX8_readType_320 (tgt := 328) (by decide) (fun c2 => ?_) (fun c2 => ?_)
  · have h := h.1 c2
    exact uX8_readType_328 C hw hS  (lv_sub hl [0] rfl)  h
  · have h := h.2 c2
    refine lv_aload_n C.1.1 C.1.2.1 dX8_readType_323 rfl (lv_at hl 0 rfl) ?_
    refine lv_iload_n C.1.1 C.1.2.1 dX8_readType_324 rfl (lv_at hl 1 rfl) ?_
    refine y_cVV C (As := [.int xv1]) (rest := []) ml_X8_304 (kX8_close l G SB S xt1 h) (ocr SB) (T := TX8) (N := 60) rfl (by decide) ⟨(Nat.le_of_ble_eq_true rfl), (Nat.le_of_ble_eq_true rfl)⟩ hl.1 rfl rfl (Nat.le_of_ble_eq_true rfl) hw hS dX8_readType_325 (fun S_3 H locs h hw hS => ?_)
    exact uX8_readType_328 C hw hS  (lv_sub hl [0] rfl)  h
set_option maxHeartbeats 4000000 in
set_option maxRecDepth 10000 in
theorem uX8_readType_292_b {p : Program} {l : Launch} {e : Env} {s : State} {m : MethodId} {args : Array Value} {below : List Frame} {meth : Method} {c : Code} {G : GG} {SB : St} (C : Cx p s m args meth c G RX8 cX8_readType 5 none) {S : St} {H : Heap} {locs : List Loc} {ls : Array Slot}  {P292 : St → Prop} {k : St → Prop} (hw : Wd G ((injR SB) S) H) (hS : va_S (AG G) s.heap H locs) {xv1 : Int32} {x1 : Int} (xt1 : xv1.toInt = x1) (hl : lv_has ls 5 [(0, .ref (G.2.2 1042)), (1, .int xv1)])  (hP292 : ∀ {H : Heap} {locs : List Loc} {ls : Array Slot} {Sy : St} , Wd G ((injR SB) Sy) H → va_S (AG G) s.heap H locs → lv_has ls 5 [(0, .ref (G.2.2 1042)), (1, .int xv1)] → P292 Sy → W p l e (rmF 8 185) s m args below meth c H locs 0 0 (MQ below (QcV G (injR SB) k) args s 0 0 (AG G)) (F0 m 292 ls [])) (h : wX8_readType_292_b S x1 P292 k) : W p l e (rmF 8 185) s m args below meth c H locs 0 0 (MQ below (QcV G (injR SB) k) args s 0 0 (AG G)) (F0 m 292 ls []) := by
  refine lv_aload_n C.1.1 C.1.2.1 dX8_readType_292 rfl (lv_at hl 0 rfl) ?_
  refine y_cVIp C (As := []) (rest := []) ml_X8_261 (kX8_goesOn l G SB S  h) (ocr SB) (T := TX8) (N := 60) rfl (by decide) ⟨(Nat.le_of_ble_eq_true rfl), (Nat.le_of_ble_eq_true rfl)⟩ hl.1 rfl rfl (Nat.le_of_ble_eq_true rfl) hw hS dX8_readType_293 (fun v1 x_1 H locs t1 h hw hS => ?_)
  refine y_if_eq C t1 dX8_readType_296 (tgt := 316) (by decide) (fun c2 => ?_) (fun c2 => ?_)
  · have h := h.1 c2
    exact uX8_readType_316 C hw hS xt1 (lv_sub hl [0, 1] rfl)  h
  · have h := h.2 c2
    refine lv_aload_n C.1.1 C.1.2.1 dX8_readType_299 rfl (lv_at hl 0 rfl) ?_
    refine y_getI C fl_X8_175 hw (ocr SB) rfl dX8_readType_300 (fun v3 t3 => ?_)
    refine y_bipush C dX8_readType_303 ⟨by decide, by decide⟩ (fun v4 t4 => ?_)
    refine y_icmp_eq C t3 t4 dX8_readType_305 (tgt := 316) (by decide) (fun c5 => ?_) (fun c5 => ?_)
    · have h := h.1 c5
      exact uX8_readType_316 C hw hS xt1 (lv_sub hl [0, 1] rfl)  h
    · have h := h.2 c5
      refine lv_aload_n C.1.1 C.1.2.1 dX8_readType_308 rfl (lv_at hl 0 rfl) ?_
      refine lv_iload_n C.1.1 C.1.2.1 dX8_readType_309 rfl (lv_at hl 1 rfl) ?_
      refine y_cVV C (As := [.int xv1]) (rest := []) ml_X8_301 (kX8_readMember l G SB S xt1 h) (ocr SB) (T := TX8) (N := 60) rfl (by decide) ⟨(Nat.le_of_ble_eq_true rfl), (Nat.le_of_ble_eq_true rfl)⟩ hl.1 rfl rfl (Nat.le_of_ble_eq_true rfl) hw hS dX8_readType_310 (fun S_6 H locs h hw hS => ?_)
      refine lv_goto (tgt := 292) C.1.1 C.1.2.1 dX8_readType_313 (by decide) ?_
      exact hP292  hw hS (lv_sub hl [0, 1] rfl) h
set_option maxHeartbeats 4000000 in
set_option maxRecDepth 10000 in
theorem uX8_readType_292 {p : Program} {l : Launch} {e : Env} {s : State} {m : MethodId} {args : Array Value} {below : List Frame} {meth : Method} {c : Code} {G : GG} {SB : St} (C : Cx p s m args meth c G RX8 cX8_readType 5 none) {S : St} {H : Heap} {locs : List Loc} {ls : Array Slot}  {k : St → Prop} (hw : Wd G ((injR SB) S) H) (hS : va_S (AG G) s.heap H locs) {xv1 : Int32} {x1 : Int} (xt1 : xv1.toInt = x1) (hl : lv_has ls 5 [(0, .ref (G.2.2 1042)), (1, .int xv1)])  (h : wX8_readType_292 S x1 k) : W p l e (rmF 8 185) s m args below meth c H locs 0 0 (MQ below (QcV G (injR SB) k) args s 0 0 (AG G)) (F0 m 292 ls []) := by
  have key : ∀ (n : Nat) {H : Heap} {locs : List Loc} {ls : Array Slot} {S : St} , Wd G ((injR SB) S) H → va_S (AG G) s.heap H locs → lv_has ls 5 [(0, .ref (G.2.2 1042)), (1, .int xv1)] → itP (fun (P : St → Prop) (a : St) => wX8_readType_292_b a x1 (fun b0 => P (b0)) k) n (S) → W p l e (rmF 8 185) s m args below meth c H locs 0 0 (MQ below (QcV G (injR SB) k) args s 0 0 (AG G)) (F0 m 292 ls []) := by
    intro n
    induction n with
    | zero => intro H locs ls S hw hS hl h; exact h.elim
    | succ n ih =>
      intro H locs ls S hw hS hl h
      exact uX8_readType_292_b C hw hS xt1 hl  (P292 := fun b0 => itP _ n (b0)) (fun hw hS hl h => ih hw hS hl h) h
  obtain ⟨n, hn⟩ := h
  exact key n  hw hS hl hn
set_option maxHeartbeats 4000000 in
set_option maxRecDepth 10000 in
theorem uX8_readType_286 {p : Program} {l : Launch} {e : Env} {s : State} {m : MethodId} {args : Array Value} {below : List Frame} {meth : Method} {c : Code} {G : GG} {SB : St} (C : Cx p s m args meth c G RX8 cX8_readType 5 none) {S : St} {H : Heap} {locs : List Loc} {ls : Array Slot}  {k : St → Prop} (hw : Wd G ((injR SB) S) H) (hS : va_S (AG G) s.heap H locs) {xv1 : Int32} {x1 : Int} (xt1 : xv1.toInt = x1) (hl : lv_has ls 5 [(0, .ref (G.2.2 1042)), (1, .int xv1)])  (h : wX8_readType_286 S x1 k) : W p l e (rmF 8 185) s m args below meth c H locs 0 0 (MQ below (QcV G (injR SB) k) args s 0 0 (AG G)) (F0 m 286 ls []) := by
  refine lv_aload_n C.1.1 C.1.2.1 dX8_readType_286 rfl (lv_at hl 0 rfl) ?_
  refine y_bipush C dX8_readType_287 ⟨by decide, by decide⟩ (fun v1 t1 => ?_)
  refine y_cVV C (As := [.int v1]) (rest := []) ml_X8_249 (kX8_take l G SB S t1 h) (ocr SB) (T := TX8) (N := 60) rfl (by decide) ⟨(Nat.le_of_ble_eq_true rfl), (Nat.le_of_ble_eq_true rfl)⟩ hl.1 rfl rfl (Nat.le_of_ble_eq_true rfl) hw hS dX8_readType_289 (fun S_2 H locs h hw hS => ?_)
  exact uX8_readType_292 C hw hS xt1 (lv_sub hl [0, 1] rfl)  h
set_option maxHeartbeats 4000000 in
set_option maxRecDepth 10000 in
theorem uX8_readType_272 {p : Program} {l : Launch} {e : Env} {s : State} {m : MethodId} {args : Array Value} {below : List Frame} {meth : Method} {c : Code} {G : GG} {SB : St} (C : Cx p s m args meth c G RX8 cX8_readType 5 none) {S : St} {H : Heap} {locs : List Loc} {ls : Array Slot}  {k : St → Prop} (hw : Wd G ((injR SB) S) H) (hS : va_S (AG G) s.heap H locs) {xv1 : Int32} {x1 : Int} (xt1 : xv1.toInt = x1) (hl : lv_has ls 5 [(0, .ref (G.2.2 1042)), (1, .int xv1)])  (h : wX8_readType_272 S x1 k) : W p l e (rmF 8 185) s m args below meth c H locs 0 0 (MQ below (QcV G (injR SB) k) args s 0 0 (AG G)) (F0 m 272 ls []) := by
  refine lv_aload_n C.1.1 C.1.2.1 dX8_readType_272 rfl (lv_at hl 0 rfl) ?_
  refine y_bipush C dX8_readType_273 ⟨by decide, by decide⟩ (fun v1 t1 => ?_)
  refine y_cVIp C (As := [.int v1]) (rest := []) ml_X8_199 (kX8_is l G SB S t1 h) (ocr SB) (T := TX8) (N := 60) rfl (by decide) ⟨(Nat.le_of_ble_eq_true rfl), (Nat.le_of_ble_eq_true rfl)⟩ hl.1 rfl rfl (Nat.le_of_ble_eq_true rfl) hw hS dX8_readType_275 (fun v2 x_2 H locs t2 h hw hS => ?_)
  refine y_if_eq C t2 dX8_readType_278 (tgt := 286) (by decide) (fun c3 => ?_) (fun c3 => ?_)
  · have h := h.1 c3
    exact uX8_readType_286 C hw hS xt1 (lv_sub hl [0, 1] rfl)  h
  · have h := h.2 c3
    refine lv_aload_n C.1.1 C.1.2.1 dX8_readType_281 rfl (lv_at hl 0 rfl) ?_
    refine lv_iload_n C.1.1 C.1.2.1 dX8_readType_282 rfl (lv_at hl 1 rfl) ?_
    refine y_cVV C (As := [.int xv1]) (rest := []) ml_X8_298 (kX8_readRefs l G SB S xt1 h) (ocr SB) (T := TX8) (N := 60) rfl (by decide) ⟨(Nat.le_of_ble_eq_true rfl), (Nat.le_of_ble_eq_true rfl)⟩ hl.1 rfl rfl (Nat.le_of_ble_eq_true rfl) hw hS dX8_readType_283 (fun S_4 H locs h hw hS => ?_)
    exact uX8_readType_286 C hw hS xt1 (lv_sub hl [0, 1] rfl)  h
set_option maxHeartbeats 4000000 in
set_option maxRecDepth 10000 in
theorem uX8_readType_253 {p : Program} {l : Launch} {e : Env} {s : State} {m : MethodId} {args : Array Value} {below : List Frame} {meth : Method} {c : Code} {G : GG} {SB : St} (C : Cx p s m args meth c G RX8 cX8_readType 5 none) {S : St} {H : Heap} {locs : List Loc} {ls : Array Slot}  {k : St → Prop} (hw : Wd G ((injR SB) S) H) (hS : va_S (AG G) s.heap H locs) {xv1 : Int32} {x1 : Int} (xt1 : xv1.toInt = x1) {xv3 : Int32} {x3 : Int} (xt3 : xv3.toInt = x3) (hl : lv_has ls 5 [(0, .ref (G.2.2 1042)), (1, .int xv1), (3, .int xv3)])  (h : wX8_readType_253 S x1 x3 k) : W p l e (rmF 8 185) s m args below meth c H locs 0 0 (MQ below (QcV G (injR SB) k) args s 0 0 (AG G)) (F0 m 253 ls []) := by
  refine lv_iload_n C.1.1 C.1.2.1 dX8_readType_253 rfl (lv_at hl 2 rfl) ?_
  refine y_iconst C dX8_readType_254 ⟨by decide, by decide⟩ (fun v1 t1 => ?_)
  refine y_icmp_ge C xt3 t1 dX8_readType_255 (tgt := 272) (by decide) (fun c2 => ?_) (fun c2 => ?_)
  · have h := h.1 c2
    exact uX8_readType_272 C hw hS xt1 (lv_sub hl [0, 1] rfl)  h
  · have h := h.2 c2
    refine lv_aload_n C.1.1 C.1.2.1 dX8_readType_258 rfl (lv_at hl 0 rfl) ?_
    refine y_bipush C dX8_readType_259 ⟨by decide, by decide⟩ (fun v3 t3 => ?_)
    refine y_cVIp C (As := [.int v3]) (rest := []) ml_X8_199 (kX8_is l G SB S t3 h) (ocr SB) (T := TX8) (N := 60) rfl (by decide) ⟨(Nat.le_of_ble_eq_true rfl), (Nat.le_of_ble_eq_true rfl)⟩ hl.1 rfl rfl (Nat.le_of_ble_eq_true rfl) hw hS dX8_readType_261 (fun v4 x_4 H locs t4 h hw hS => ?_)
    refine y_if_eq C t4 dX8_readType_264 (tgt := 272) (by decide) (fun c5 => ?_) (fun c5 => ?_)
    · have h := h.1 c5
      exact uX8_readType_272 C hw hS xt1 (lv_sub hl [0, 1] rfl)  h
    · have h := h.2 c5
      refine lv_aload_n C.1.1 C.1.2.1 dX8_readType_267 rfl (lv_at hl 0 rfl) ?_
      refine lv_iload_n C.1.1 C.1.2.1 dX8_readType_268 rfl (lv_at hl 1 rfl) ?_
      refine y_cVV C (As := [.int xv1]) (rest := []) ml_X8_295 (kX8_readNest l G SB S xt1 h) (ocr SB) (T := TX8) (N := 60) rfl (by decide) ⟨(Nat.le_of_ble_eq_true rfl), (Nat.le_of_ble_eq_true rfl)⟩ hl.1 rfl rfl (Nat.le_of_ble_eq_true rfl) hw hS dX8_readType_269 (fun S_6 H locs h hw hS => ?_)
      exact uX8_readType_272 C hw hS xt1 (lv_sub hl [0, 1] rfl)  h
set_option maxHeartbeats 4000000 in
set_option maxRecDepth 10000 in
theorem uX8_readType_106_b {p : Program} {l : Launch} {e : Env} {s : State} {m : MethodId} {args : Array Value} {below : List Frame} {meth : Method} {c : Code} {G : GG} {SB : St} (C : Cx p s m args meth c G RX8 cX8_readType 5 none) {S : St} {H : Heap} {locs : List Loc} {ls : Array Slot}  {P106 : Int → Prop} {k : St → Prop} (hw : Wd G ((injR SB) S) H) (hS : va_S (AG G) s.heap H locs) {xv1 : Int32} {x1 : Int} (xt1 : xv1.toInt = x1) {xv2 : Int32} {x2 : Int} (xt2 : xv2.toInt = x2) {xv3 : Int32} {x3 : Int} (xt3 : xv3.toInt = x3) {xv4 : Int32} {x4 : Int} (xt4 : xv4.toInt = x4) (hl : lv_has ls 5 [(0, .ref (G.2.2 1042)), (1, .int xv1), (2, .int xv2), (3, .int xv3), (4, .int xv4)])  (hP106 : ∀ {H : Heap} {locs : List Loc} {ls : Array Slot} {yv4 : Int32} {y4 : Int}, yv4.toInt = y4 → Wd G ((injR SB) S) H → va_S (AG G) s.heap H locs → lv_has ls 5 [(0, .ref (G.2.2 1042)), (1, .int xv1), (2, .int xv2), (3, .int xv3), (4, .int yv4)] → P106 y4 → W p l e (rmF 8 185) s m args below meth c H locs 0 0 (MQ below (QcV G (injR SB) k) args s 0 0 (AG G)) (F0 m 106 ls [])) (h : wX8_readType_106_b S x1 x2 x3 x4 P106 k) : W p l e (rmF 8 185) s m args below meth c H locs 0 0 (MQ below (QcV G (injR SB) k) args s 0 0 (AG G)) (F0 m 106 ls []) := by
  refine lv_iload C.1.1 C.1.2.1 dX8_readType_106 (lv_at hl 4 rfl) ?_
  refine lv_iload_n C.1.1 C.1.2.1 dX8_readType_108 rfl (lv_at hl 1 rfl) ?_
  refine y_icmp_ge C xt4 xt1 dX8_readType_109 (tgt := 147) (by decide) (fun c1 => ?_) (fun c1 => ?_)
  · have h := h.1 c1
    refine lv_aload_n C.1.1 C.1.2.1 dX8_readType_147 rfl (lv_at hl 0 rfl) ?_
    refine y_getA C fl_X8_61 hw (ocr SB) rfl (o := 8) rfl dX8_readType_148 ?_
    refine lv_iload_n C.1.1 C.1.2.1 dX8_readType_151 rfl (lv_at hl 2 rfl) ?_
    refine lv_aload_n C.1.1 C.1.2.1 dX8_readType_152 rfl (lv_at hl 0 rfl) ?_
    refine y_getJ C fl_X8_182 hw (ocr SB) rfl dX8_readType_153 (fun v3 t3 => ?_)
    obtain ⟨b4, h⟩ := h
    obtain ⟨S_4, e4⟩ : ∃ z : St, z = up S 8 x2 (S 0 7) := ⟨_, rfl⟩
    have h := h S_4 e4
    refine y_last C hw hS (acr_17 SB) xt2 t3 b4 dX8_readType_156 (fun H locs hw hS => ?_)
    have hw : Wd G ((injR SB) S_4) H := by rw [e4]; exact hw
    refine lv_aload_n C.1.1 C.1.2.1 dX8_readType_157 rfl (lv_at hl 0 rfl) ?_
    refine y_getA C fl_X8_64 hw (ocr SB) rfl (o := 9) rfl dX8_readType_158 ?_
    refine lv_iload_n C.1.1 C.1.2.1 dX8_readType_161 rfl (lv_at hl 2 rfl) ?_
    refine lv_aload_n C.1.1 C.1.2.1 dX8_readType_162 rfl (lv_at hl 0 rfl) ?_
    refine y_getI C fl_X8_246 hw (ocr SB) rfl dX8_readType_163 (fun v6 t6 => ?_)
    obtain ⟨b7, h⟩ := h
    obtain ⟨S_7, e7⟩ : ∃ z : St, z = up S_4 9 x2 (S_4 0 46) := ⟨_, rfl⟩
    have h := h S_7 e7
    refine y_iast C hw hS (acr_18 SB) xt2 t6 b7 dX8_readType_166 (fun H locs hw hS => ?_)
    have hw : Wd G ((injR SB) S_7) H := by rw [e7]; exact hw
    refine lv_aload_n C.1.1 C.1.2.1 dX8_readType_167 rfl (lv_at hl 0 rfl) ?_
    refine y_getA C fl_X8_67 hw (ocr SB) rfl (o := 10) rfl dX8_readType_168 ?_
    refine lv_iload_n C.1.1 C.1.2.1 dX8_readType_171 rfl (lv_at hl 2 rfl) ?_
    refine lv_aload_n C.1.1 C.1.2.1 dX8_readType_172 rfl (lv_at hl 0 rfl) ?_
    refine y_getI C fl_X8_255 hw (ocr SB) rfl dX8_readType_173 (fun v9 t9 => ?_)
    obtain ⟨b10, h⟩ := h
    obtain ⟨S_10, e10⟩ : ∃ z : St, z = up S_7 10 x2 (S_7 0 47) := ⟨_, rfl⟩
    have h := h S_10 e10
    refine y_iast C hw hS (acr_19 SB) xt2 t9 b10 dX8_readType_176 (fun H locs hw hS => ?_)
    have hw : Wd G ((injR SB) S_10) H := by rw [e10]; exact hw
    refine lv_aload_n C.1.1 C.1.2.1 dX8_readType_177 rfl (lv_at hl 0 rfl) ?_
    refine y_getA C fl_X8_70 hw (ocr SB) rfl (o := 11) rfl dX8_readType_178 ?_
    refine lv_iload_n C.1.1 C.1.2.1 dX8_readType_181 rfl (lv_at hl 2 rfl) ?_
    refine lv_iload_n C.1.1 C.1.2.1 dX8_readType_182 rfl (lv_at hl 3 rfl) ?_
    obtain ⟨b12, h⟩ := h
    obtain ⟨S_12, e12⟩ : ∃ z : St, z = up S_10 11 x2 x3 := ⟨_, rfl⟩
    have h := h S_12 e12
    refine y_iast C hw hS (acr_20 SB) xt2 xt3 b12 dX8_readType_183 (fun H locs hw hS => ?_)
    have hw : Wd G ((injR SB) S_12) H := by rw [e12]; exact hw
    refine lv_aload_n C.1.1 C.1.2.1 dX8_readType_184 rfl (lv_at hl 0 rfl) ?_
    refine y_getA C fl_X8_73 hw (ocr SB) rfl (o := 12) rfl dX8_readType_185 ?_
    refine lv_iload_n C.1.1 C.1.2.1 dX8_readType_188 rfl (lv_at hl 2 rfl) ?_
    refine lv_iload_n C.1.1 C.1.2.1 dX8_readType_189 rfl (lv_at hl 1 rfl) ?_
    obtain ⟨b14, h⟩ := h
    obtain ⟨S_14, e14⟩ : ∃ z : St, z = up S_12 12 x2 x1 := ⟨_, rfl⟩
    have h := h S_14 e14
    refine y_iast C hw hS (acr_21 SB) xt2 xt1 b14 dX8_readType_190 (fun H locs hw hS => ?_)
    have hw : Wd G ((injR SB) S_14) H := by rw [e14]; exact hw
    refine lv_aload_n C.1.1 C.1.2.1 dX8_readType_191 rfl (lv_at hl 0 rfl) ?_
    refine y_getA C fl_X8_76 hw (ocr SB) rfl (o := 13) rfl dX8_readType_192 ?_
    refine lv_iload_n C.1.1 C.1.2.1 dX8_readType_195 rfl (lv_at hl 2 rfl) ?_
    refine y_iconst C dX8_readType_196 ⟨by decide, by decide⟩ (fun v16 t16 => ?_)
    obtain ⟨b17, h⟩ := h
    obtain ⟨S_17, e17⟩ : ∃ z : St, z = up S_14 13 x2 0 := ⟨_, rfl⟩
    have h := h S_17 e17
    refine y_iast C hw hS (acr_22 SB) xt2 t16 b17 dX8_readType_197 (fun H locs hw hS => ?_)
    have hw : Wd G ((injR SB) S_17) H := by rw [e17]; exact hw
    refine lv_aload_n C.1.1 C.1.2.1 dX8_readType_198 rfl (lv_at hl 0 rfl) ?_
    refine y_getA C fl_X8_85 hw (ocr SB) rfl (o := 16) rfl dX8_readType_199 ?_
    refine lv_iload_n C.1.1 C.1.2.1 dX8_readType_202 rfl (lv_at hl 2 rfl) ?_
    refine y_iconst C dX8_readType_203 ⟨by decide, by decide⟩ (fun v19 t19 => ?_)
    obtain ⟨b20, h⟩ := h
    obtain ⟨S_20, e20⟩ : ∃ z : St, z = up S_17 16 x2 0 := ⟨_, rfl⟩
    have h := h S_20 e20
    refine y_iast C hw hS (acr_25 SB) xt2 t19 b20 dX8_readType_204 (fun H locs hw hS => ?_)
    have hw : Wd G ((injR SB) S_20) H := by rw [e20]; exact hw
    refine lv_aload_n C.1.1 C.1.2.1 dX8_readType_205 rfl (lv_at hl 0 rfl) ?_
    refine y_getA C fl_X8_94 hw (ocr SB) rfl (o := 19) rfl dX8_readType_206 ?_
    refine lv_iload_n C.1.1 C.1.2.1 dX8_readType_209 rfl (lv_at hl 2 rfl) ?_
    refine y_bipush C dX8_readType_210 ⟨by decide, by decide⟩ (fun v22 t22 => ?_)
    obtain ⟨b23, h⟩ := h
    obtain ⟨S_23, e23⟩ : ∃ z : St, z = up S_20 19 x2 (-13) := ⟨_, rfl⟩
    have h := h S_23 e23
    refine y_iast C hw hS (acr_28 SB) xt2 t22 b23 dX8_readType_212 (fun H locs hw hS => ?_)
    have hw : Wd G ((injR SB) S_23) H := by rw [e23]; exact hw
    refine lv_aload_n C.1.1 C.1.2.1 dX8_readType_213 rfl (lv_at hl 0 rfl) ?_
    refine y_getA C fl_X8_110 hw (ocr SB) rfl (o := 24) rfl dX8_readType_214 ?_
    refine lv_iload_n C.1.1 C.1.2.1 dX8_readType_217 rfl (lv_at hl 2 rfl) ?_
    refine lv_aload_n C.1.1 C.1.2.1 dX8_readType_218 rfl (lv_at hl 0 rfl) ?_
    refine y_getA C fl_X8_49 hw (ocr SB) rfl (o := 4) rfl dX8_readType_219 ?_
    refine lv_aload_n C.1.1 C.1.2.1 dX8_readType_222 rfl (lv_at hl 0 rfl) ?_
    refine y_getI C fl_X8_208 hw (ocr SB) rfl dX8_readType_223 (fun v26 t26 => ?_)
    obtain ⟨b27, h⟩ := h
    refine y_iald C hw (acr_13 SB) t26 b27 dX8_readType_226 (fun v27 t27 => ?_)
    obtain ⟨b28, h⟩ := h
    obtain ⟨S_28, e28⟩ : ∃ z : St, z = up S_23 24 x2 (S_23 4 (S_23 0 10)) := ⟨_, rfl⟩
    have h := h S_28 e28
    refine y_iast C hw hS (acr_33 SB) xt2 t27 b28 dX8_readType_227 (fun H locs hw hS => ?_)
    have hw : Wd G ((injR SB) S_28) H := by rw [e28]; exact hw
    refine lv_aload_n C.1.1 C.1.2.1 dX8_readType_228 rfl (lv_at hl 0 rfl) ?_
    refine y_getA C fl_X8_113 hw (ocr SB) rfl (o := 25) rfl dX8_readType_229 ?_
    refine lv_iload_n C.1.1 C.1.2.1 dX8_readType_232 rfl (lv_at hl 2 rfl) ?_
    refine y_iconst C dX8_readType_233 ⟨by decide, by decide⟩ (fun v30 t30 => ?_)
    obtain ⟨b31, h⟩ := h
    obtain ⟨S_31, e31⟩ : ∃ z : St, z = up S_28 25 x2 0 := ⟨_, rfl⟩
    have h := h S_31 e31
    refine y_iast C hw hS (acr_34 SB) xt2 t30 b31 dX8_readType_234 (fun H locs hw hS => ?_)
    have hw : Wd G ((injR SB) S_31) H := by rw [e31]; exact hw
    refine lv_aload_n C.1.1 C.1.2.1 dX8_readType_235 rfl (lv_at hl 0 rfl) ?_
    refine y_cVV C (As := []) (rest := []) ml_X8_202 (kX8_next l G SB S_31  h) (ocr SB) (T := TX8) (N := 60) rfl (by decide) ⟨(Nat.le_of_ble_eq_true rfl), (Nat.le_of_ble_eq_true rfl)⟩ hl.1 rfl rfl (Nat.le_of_ble_eq_true rfl) hw hS dX8_readType_236 (fun S_32 H locs h hw hS => ?_)
    refine lv_aload_n C.1.1 C.1.2.1 dX8_readType_239 rfl (lv_at hl 0 rfl) ?_
    refine y_bipush C dX8_readType_240 ⟨by decide, by decide⟩ (fun v33 t33 => ?_)
    refine y_cVIp C (As := [.int v33]) (rest := []) ml_X8_199 (kX8_is l G SB S_32 t33 h) (ocr SB) (T := TX8) (N := 60) rfl (by decide) ⟨(Nat.le_of_ble_eq_true rfl), (Nat.le_of_ble_eq_true rfl)⟩ hl.1 rfl rfl (Nat.le_of_ble_eq_true rfl) hw hS dX8_readType_242 (fun v34 x_34 H locs t34 h hw hS => ?_)
    refine y_if_eq C t34 dX8_readType_245 (tgt := 253) (by decide) (fun c35 => ?_) (fun c35 => ?_)
    · have h := h.1 c35
      exact uX8_readType_253 C hw hS xt1 xt3 (lv_sub hl [0, 1, 3] rfl)  h
    · have h := h.2 c35
      refine lv_aload_n C.1.1 C.1.2.1 dX8_readType_248 rfl (lv_at hl 0 rfl) ?_
      refine lv_iload_n C.1.1 C.1.2.1 dX8_readType_249 rfl (lv_at hl 1 rfl) ?_
      refine y_cVV C (As := [.int xv1]) (rest := []) ml_X8_292 (kX8_readVars l G SB S_32 xt1 h) (ocr SB) (T := TX8) (N := 60) rfl (by decide) ⟨(Nat.le_of_ble_eq_true rfl), (Nat.le_of_ble_eq_true rfl)⟩ hl.1 rfl rfl (Nat.le_of_ble_eq_true rfl) hw hS dX8_readType_250 (fun S_36 H locs h hw hS => ?_)
      exact uX8_readType_253 C hw hS xt1 xt3 (lv_sub hl [0, 1, 3] rfl)  h
  · have h := h.2 c1
    refine lv_aload_n C.1.1 C.1.2.1 dX8_readType_112 rfl (lv_at hl 0 rfl) ?_
    refine y_getA C fl_X8_61 hw (ocr SB) rfl (o := 8) rfl dX8_readType_113 ?_
    refine lv_aload_n C.1.1 C.1.2.1 dX8_readType_116 rfl (lv_at hl 0 rfl) ?_
    refine lv_iload C.1.1 C.1.2.1 dX8_readType_117 (lv_at hl 4 rfl) ?_
    refine y_cVIp C (As := [.int xv4]) (rest := [.ref (G.2.2 (1050))]) ml_X8_214 (kX8_t l G SB S xt4 h) (ocr SB) (T := TX8) (N := 60) rfl (by decide) ⟨(Nat.le_of_ble_eq_true rfl), (Nat.le_of_ble_eq_true rfl)⟩ hl.1 rfl rfl (Nat.le_of_ble_eq_true rfl) hw hS dX8_readType_119 (fun v38 x_38 H locs t38 h hw hS => ?_)
    obtain ⟨b39, h⟩ := h
    refine y_lald C hw (acr_17 SB) t38 b39 dX8_readType_122 (fun v39 t39 => ?_)
    refine lv_aload_n C.1.1 C.1.2.1 dX8_readType_123 rfl (lv_at hl 0 rfl) ?_
    refine y_getJ C fl_X8_182 hw (ocr SB) rfl dX8_readType_124 (fun v40 t40 => ?_)
    refine y_lcmp C t39 t40 dX8_readType_127 (fun v41 t41 => ?_)
    refine y_if_ne C t41 dX8_readType_128 (tgt := 141) (by decide) (fun c42 => ?_) (fun c42 => ?_)
    · have c42 := cmp_ne.mp c42
      have h := h.1 c42
      obtain ⟨x_43, e43⟩ : ∃ z : Int, z = w32 (x4 + 1) := ⟨_, rfl⟩
      have h := h x_43 e43
      obtain ⟨v43, t43, g43⟩ : ∃ z : Int32, z.toInt = x_43 ∧ xv4 + Int32.ofInt 1 = z := ⟨_, (ti_inc xt4 ⟨by decide, by decide⟩).trans e43.symm, rfl⟩
      refine lv_iinc (v := v43) (lv' := [(4, .int v43), (0, .ref (G.2.2 1042)), (1, .int xv1), (2, .int xv2), (3, .int xv3)]) C.1.1 C.1.2.1 dX8_readType_141 hl (k := 4) rfl g43 (by decide) rfl (fun ls hl => ?_)
      refine lv_goto (tgt := 106) C.1.1 C.1.2.1 dX8_readType_144 (by decide) ?_
      exact hP106 t43 hw hS (lv_sub hl [1, 2, 3, 4, 0] rfl) h
    · have c42 := cmp_eq.mp c42
      have h := h.2 c42
      refine lv_aload_n C.1.1 C.1.2.1 dX8_readType_131 rfl (lv_at hl 0 rfl) ?_
      refine y_iconst C dX8_readType_132 ⟨by decide, by decide⟩ (fun v44 t44 => ?_)
      refine lv_aload_n C.1.1 C.1.2.1 dX8_readType_133 rfl (lv_at hl 0 rfl) ?_
      refine y_getI C fl_X8_172 hw (ocr SB) rfl dX8_readType_134 (fun v45 t45 => ?_)
      refine y_cVV C (As := [.int v44, .int v45]) (rest := []) ml_X8_195 (kX8_fails l G SB S t44 t45 h) (ocr SB) (T := TX8) (N := 60) rfl (by decide) ⟨(Nat.le_of_ble_eq_true rfl), (Nat.le_of_ble_eq_true rfl)⟩ hl.1 rfl rfl (Nat.le_of_ble_eq_true rfl) hw hS dX8_readType_137 (fun S_46 H locs h hw hS => ?_)
      exact y_vret C hw hS h dX8_readType_140
set_option maxHeartbeats 4000000 in
set_option maxRecDepth 10000 in
theorem uX8_readType_106 {p : Program} {l : Launch} {e : Env} {s : State} {m : MethodId} {args : Array Value} {below : List Frame} {meth : Method} {c : Code} {G : GG} {SB : St} (C : Cx p s m args meth c G RX8 cX8_readType 5 none) {S : St} {H : Heap} {locs : List Loc} {ls : Array Slot}  {k : St → Prop} (hw : Wd G ((injR SB) S) H) (hS : va_S (AG G) s.heap H locs) {xv1 : Int32} {x1 : Int} (xt1 : xv1.toInt = x1) {xv2 : Int32} {x2 : Int} (xt2 : xv2.toInt = x2) {xv3 : Int32} {x3 : Int} (xt3 : xv3.toInt = x3) {xv4 : Int32} {x4 : Int} (xt4 : xv4.toInt = x4) (hl : lv_has ls 5 [(0, .ref (G.2.2 1042)), (1, .int xv1), (2, .int xv2), (3, .int xv3), (4, .int xv4)])  (h : wX8_readType_106 S x1 x2 x3 x4 k) : W p l e (rmF 8 185) s m args below meth c H locs 0 0 (MQ below (QcV G (injR SB) k) args s 0 0 (AG G)) (F0 m 106 ls []) := by
  have key : ∀ (n : Nat) {H : Heap} {locs : List Loc} {ls : Array Slot} {xv4 : Int32} {x4 : Int}, xv4.toInt = x4 → Wd G ((injR SB) S) H → va_S (AG G) s.heap H locs → lv_has ls 5 [(0, .ref (G.2.2 1042)), (1, .int xv1), (2, .int xv2), (3, .int xv3), (4, .int xv4)] → itP (fun (P : Int → Prop) (a : Int) => wX8_readType_106_b S x1 x2 x3 a (fun b0 => P (b0)) k) n (x4) → W p l e (rmF 8 185) s m args below meth c H locs 0 0 (MQ below (QcV G (injR SB) k) args s 0 0 (AG G)) (F0 m 106 ls []) := by
    intro n
    induction n with
    | zero => intro H locs ls xv4 x4 xt4 hw hS hl h; exact h.elim
    | succ n ih =>
      intro H locs ls xv4 x4 xt4 hw hS hl h
      exact uX8_readType_106_b C hw hS xt1 xt2 xt3 xt4 hl  (P106 := fun b0 => itP _ n (b0)) (fun q0 hw hS hl h => ih q0 hw hS hl h) h
  obtain ⟨n, hn⟩ := h
  exact key n xt4 hw hS hl hn
set_option maxHeartbeats 4000000 in
set_option maxRecDepth 10000 in
theorem uX8_readType_85 {p : Program} {l : Launch} {e : Env} {s : State} {m : MethodId} {args : Array Value} {below : List Frame} {meth : Method} {c : Code} {G : GG} {SB : St} (C : Cx p s m args meth c G RX8 cX8_readType 5 none) {S : St} {H : Heap} {locs : List Loc} {ls : Array Slot}  {k : St → Prop} (hw : Wd G ((injR SB) S) H) (hS : va_S (AG G) s.heap H locs) {xv1 : Int32} {x1 : Int} (xt1 : xv1.toInt = x1) {xv2 : Int32} {x2 : Int} (xt2 : xv2.toInt = x2) {sv0 : Int32} {s0 : Int} (st0 : sv0.toInt = s0) (hl : lv_has ls 5 [(0, .ref (G.2.2 1042)), (1, .int xv1), (2, .int xv2)])  (h : wX8_readType_85 S x1 x2 s0 k) : W p l e (rmF 8 185) s m args below meth c H locs 0 0 (MQ below (QcV G (injR SB) k) args s 0 0 (AG G)) (F0 m 85 ls [.int sv0]) := by
  refine lv_istore_n (lv' := [(3, .int sv0), (0, .ref (G.2.2 1042)), (1, .int xv1), (2, .int xv2)]) C.1.1 C.1.2.1 dX8_readType_85 rfl hl (by decide) rfl (fun ls hl => ?_)
  refine lv_aload_n C.1.1 C.1.2.1 dX8_readType_86 rfl (lv_at hl 1 rfl) ?_
  refine y_cVV C (As := []) (rest := []) ml_X8_202 (kX8_next l G SB S  h) (ocr SB) (T := TX8) (N := 60) rfl (by decide) ⟨(Nat.le_of_ble_eq_true rfl), (Nat.le_of_ble_eq_true rfl)⟩ hl.1 rfl rfl (Nat.le_of_ble_eq_true rfl) hw hS dX8_readType_87 (fun S_1 H locs h hw hS => ?_)
  refine lv_aload_n C.1.1 C.1.2.1 dX8_readType_90 rfl (lv_at hl 1 rfl) ?_
  refine y_iconst C dX8_readType_91 ⟨by decide, by decide⟩ (fun v2 t2 => ?_)
  refine y_cVIp C (As := [.int v2]) (rest := []) ml_X8_199 (kX8_is l G SB S_1 t2 h) (ocr SB) (T := TX8) (N := 60) rfl (by decide) ⟨(Nat.le_of_ble_eq_true rfl), (Nat.le_of_ble_eq_true rfl)⟩ hl.1 rfl rfl (Nat.le_of_ble_eq_true rfl) hw hS dX8_readType_92 (fun v3 x_3 H locs t3 h hw hS => ?_)
  refine y_if_ne C t3 dX8_readType_95 (tgt := 103) (by decide) (fun c4 => ?_) (fun c4 => ?_)
  · have h := h.1 c4
    refine y_iconst C dX8_readType_103 ⟨by decide, by decide⟩ (fun v5 t5 => ?_)
    refine lv_istore (lv' := [(4, .int v5), (3, .int sv0), (0, .ref (G.2.2 1042)), (1, .int xv1), (2, .int xv2)]) C.1.1 C.1.2.1 dX8_readType_104 hl (by decide) rfl (fun ls hl => ?_)
    exact uX8_readType_106 C hw hS xt1 xt2 st0 t5 (lv_sub hl [2, 3, 4, 1, 0] rfl)  h
  · have h := h.2 c4
    refine lv_aload_n C.1.1 C.1.2.1 dX8_readType_98 rfl (lv_at hl 1 rfl) ?_
    refine y_cVV C (As := []) (rest := []) ml_X8_205 (kX8_odd l G SB S_1  h) (ocr SB) (T := TX8) (N := 60) rfl (by decide) ⟨(Nat.le_of_ble_eq_true rfl), (Nat.le_of_ble_eq_true rfl)⟩ hl.1 rfl rfl (Nat.le_of_ble_eq_true rfl) hw hS dX8_readType_99 (fun S_6 H locs h hw hS => ?_)
    exact y_vret C hw hS h dX8_readType_102
set_option maxHeartbeats 4000000 in
set_option maxRecDepth 10000 in
theorem uX8_readType_71 {p : Program} {l : Launch} {e : Env} {s : State} {m : MethodId} {args : Array Value} {below : List Frame} {meth : Method} {c : Code} {G : GG} {SB : St} (C : Cx p s m args meth c G RX8 cX8_readType 5 none) {S : St} {H : Heap} {locs : List Loc} {ls : Array Slot}  {k : St → Prop} (hw : Wd G ((injR SB) S) H) (hS : va_S (AG G) s.heap H locs) {xv1 : Int32} {x1 : Int} (xt1 : xv1.toInt = x1) {xv2 : Int32} {x2 : Int} (xt2 : xv2.toInt = x2) {xv3 : Int32} {x3 : Int} (xt3 : xv3.toInt = x3) (hl : lv_has ls 5 [(0, .ref (G.2.2 1042)), (1, .int xv1), (2, .int xv2), (3, .int xv3)])  (h : wX8_readType_71 S x1 x2 x3 k) : W p l e (rmF 8 185) s m args below meth c H locs 0 0 (MQ below (QcV G (injR SB) k) args s 0 0 (AG G)) (F0 m 71 ls []) := by
  refine lv_aload_n C.1.1 C.1.2.1 dX8_readType_71 rfl (lv_at hl 0 rfl) ?_
  refine y_bipush C dX8_readType_72 ⟨by decide, by decide⟩ (fun v1 t1 => ?_)
  refine y_cVIp C (As := [.int v1]) (rest := []) ml_X8_199 (kX8_is l G SB S t1 h) (ocr SB) (T := TX8) (N := 60) rfl (by decide) ⟨(Nat.le_of_ble_eq_true rfl), (Nat.le_of_ble_eq_true rfl)⟩ hl.1 rfl rfl (Nat.le_of_ble_eq_true rfl) hw hS dX8_readType_74 (fun v2 x_2 H locs t2 h hw hS => ?_)
  refine y_if_eq C t2 dX8_readType_77 (tgt := 84) (by decide) (fun c3 => ?_) (fun c3 => ?_)
  · have h := h.1 c3
    refine lv_iload_n C.1.1 C.1.2.1 dX8_readType_84 rfl (lv_at hl 3 rfl) ?_
    exact uX8_readType_85 C hw hS xt1 xt2 xt3 (lv_sub hl [0, 1, 2] rfl)  h
  · have h := h.2 c3
    refine y_iconst C dX8_readType_80 ⟨by decide, by decide⟩ (fun v4 t4 => ?_)
    refine lv_goto (tgt := 85) C.1.1 C.1.2.1 dX8_readType_81 (by decide) ?_
    exact uX8_readType_85 C hw hS xt1 xt2 t4 (lv_sub hl [0, 1, 2] rfl)  h
set_option maxHeartbeats 4000000 in
set_option maxRecDepth 10000 in
theorem uX8_readType_47 {p : Program} {l : Launch} {e : Env} {s : State} {m : MethodId} {args : Array Value} {below : List Frame} {meth : Method} {c : Code} {G : GG} {SB : St} (C : Cx p s m args meth c G RX8 cX8_readType 5 none) {S : St} {H : Heap} {locs : List Loc} {ls : Array Slot}  {k : St → Prop} (hw : Wd G ((injR SB) S) H) (hS : va_S (AG G) s.heap H locs) {xv1 : Int32} {x1 : Int} (xt1 : xv1.toInt = x1) {xv2 : Int32} {x2 : Int} (xt2 : xv2.toInt = x2) {sv0 : Int32} {s0 : Int} (st0 : sv0.toInt = s0) (hl : lv_has ls 5 [(0, .ref (G.2.2 1042)), (1, .int xv1), (2, .int xv2)])  (h : wX8_readType_47 S x1 x2 s0 k) : W p l e (rmF 8 185) s m args below meth c H locs 0 0 (MQ below (QcV G (injR SB) k) args s 0 0 (AG G)) (F0 m 47 ls [.int sv0]) := by
  refine lv_istore_n (lv' := [(3, .int sv0), (0, .ref (G.2.2 1042)), (1, .int xv1), (2, .int xv2)]) C.1.1 C.1.2.1 dX8_readType_47 rfl hl (by decide) rfl (fun ls hl => ?_)
  refine lv_iload_n C.1.1 C.1.2.1 dX8_readType_48 rfl (lv_at hl 0 rfl) ?_
  refine y_iconst C dX8_readType_49 ⟨by decide, by decide⟩ (fun v1 t1 => ?_)
  refine y_icmp_ne C st0 t1 dX8_readType_50 (tgt := 71) (by decide) (fun c2 => ?_) (fun c2 => ?_)
  · have h := h.1 c2
    exact uX8_readType_71 C hw hS xt1 xt2 st0 (lv_sub hl [1, 2, 3, 0] rfl)  h
  · have h := h.2 c2
    refine lv_aload_n C.1.1 C.1.2.1 dX8_readType_53 rfl (lv_at hl 1 rfl) ?_
    refine y_cVV C (As := []) (rest := []) ml_X8_202 (kX8_next l G SB S  h) (ocr SB) (T := TX8) (N := 60) rfl (by decide) ⟨(Nat.le_of_ble_eq_true rfl), (Nat.le_of_ble_eq_true rfl)⟩ hl.1 rfl rfl (Nat.le_of_ble_eq_true rfl) hw hS dX8_readType_54 (fun S_3 H locs h hw hS => ?_)
    refine lv_aload_n C.1.1 C.1.2.1 dX8_readType_57 rfl (lv_at hl 1 rfl) ?_
    refine y_bipush C dX8_readType_58 ⟨by decide, by decide⟩ (fun v4 t4 => ?_)
    refine y_cVIp C (As := [.int v4]) (rest := []) ml_X8_199 (kX8_is l G SB S_3 t4 h) (ocr SB) (T := TX8) (N := 60) rfl (by decide) ⟨(Nat.le_of_ble_eq_true rfl), (Nat.le_of_ble_eq_true rfl)⟩ hl.1 rfl rfl (Nat.le_of_ble_eq_true rfl) hw hS dX8_readType_60 (fun v5 x_5 H locs t5 h hw hS => ?_)
    refine y_if_ne C t5 dX8_readType_63 (tgt := 71) (by decide) (fun c6 => ?_) (fun c6 => ?_)
    · have h := h.1 c6
      exact uX8_readType_71 C hw hS xt1 xt2 st0 (lv_sub hl [1, 2, 3, 0] rfl)  h
    · have h := h.2 c6
      refine lv_aload_n C.1.1 C.1.2.1 dX8_readType_66 rfl (lv_at hl 1 rfl) ?_
      refine y_cVV C (As := []) (rest := []) ml_X8_205 (kX8_odd l G SB S_3  h) (ocr SB) (T := TX8) (N := 60) rfl (by decide) ⟨(Nat.le_of_ble_eq_true rfl), (Nat.le_of_ble_eq_true rfl)⟩ hl.1 rfl rfl (Nat.le_of_ble_eq_true rfl) hw hS dX8_readType_67 (fun S_7 H locs h hw hS => ?_)
      exact y_vret C hw hS h dX8_readType_70
set_option maxHeartbeats 4000000 in
set_option maxRecDepth 10000 in
theorem uX8_readType_0 {p : Program} {l : Launch} {e : Env} {s : State} {m : MethodId} {args : Array Value} {below : List Frame} {meth : Method} {c : Code} {G : GG} {SB : St} (C : Cx p s m args meth c G RX8 cX8_readType 5 none) {S : St} {H : Heap} {locs : List Loc} {ls : Array Slot}  {k : St → Prop} (hw : Wd G ((injR SB) S) H) (hS : va_S (AG G) s.heap H locs)  (hl : lv_has ls 5 [(0, .ref (G.2.2 1042))])  (h : wX8_readType_0 S k) : W p l e (rmF 8 185) s m args below meth c H locs 0 0 (MQ below (QcV G (injR SB) k) args s 0 0 (AG G)) (F0 m 0 ls []) := by
  refine lv_aload_n C.1.1 C.1.2.1 dX8_readType_0 rfl (lv_at hl 0 rfl) ?_
  refine y_getA C fl_X8_45 hw (ocr SB) rfl (o := 3) rfl dX8_readType_1 ?_
  refine lv_aload_n C.1.1 C.1.2.1 dX8_readType_4 rfl (lv_at hl 0 rfl) ?_
  refine y_getI C fl_X8_208 hw (ocr SB) rfl dX8_readType_5 (fun v2 t2 => ?_)
  obtain ⟨b3, h⟩ := h
  refine y_iald C hw (acr_12 SB) t2 b3 dX8_readType_8 (fun v3 t3 => ?_)
  obtain ⟨x_4, e4⟩ : ∃ z : Int, z = S 3 (S 0 10) := ⟨_, rfl⟩
  have h := h x_4 e4
  have t4 := t3.trans e4.symm
  refine lv_istore_n (lv' := [(1, .int v3), (0, .ref (G.2.2 1042))]) C.1.1 C.1.2.1 dX8_readType_9 rfl hl (by decide) rfl (fun ls hl => ?_)
  refine lv_iload_n C.1.1 C.1.2.1 dX8_readType_10 rfl (lv_at hl 0 rfl) ?_
  refine y_bipush C dX8_readType_11 ⟨by decide, by decide⟩ (fun v5 t5 => ?_)
  refine y_icmp_ne C t4 t5 dX8_readType_13 (tgt := 27) (by decide) (fun c6 => ?_) (fun c6 => ?_)
  · have h := h.1 c6
    refine lv_aload_n C.1.1 C.1.2.1 dX8_readType_27 rfl (lv_at hl 1 rfl) ?_
    refine lv_iload_n C.1.1 C.1.2.1 dX8_readType_28 rfl (lv_at hl 0 rfl) ?_
    refine y_cVIp C (As := [.int v3]) (rest := []) ml_X8_214 (kX8_t l G SB S t4 h) (ocr SB) (T := TX8) (N := 60) rfl (by decide) ⟨(Nat.le_of_ble_eq_true rfl), (Nat.le_of_ble_eq_true rfl)⟩ hl.1 rfl rfl (Nat.le_of_ble_eq_true rfl) hw hS dX8_readType_29 (fun v7 x_7 H locs t7 h hw hS => ?_)
    refine lv_istore_n (lv' := [(2, .int v7), (1, .int v3), (0, .ref (G.2.2 1042))]) C.1.1 C.1.2.1 dX8_readType_32 rfl hl (by decide) rfl (fun ls hl => ?_)
    refine lv_aload_n C.1.1 C.1.2.1 dX8_readType_33 rfl (lv_at hl 2 rfl) ?_
    refine y_bipush C dX8_readType_34 ⟨by decide, by decide⟩ (fun v8 t8 => ?_)
    refine y_cVIp C (As := [.int v8]) (rest := []) ml_X8_199 (kX8_is l G SB S t8 h) (ocr SB) (T := TX8) (N := 60) rfl (by decide) ⟨(Nat.le_of_ble_eq_true rfl), (Nat.le_of_ble_eq_true rfl)⟩ hl.1 rfl rfl (Nat.le_of_ble_eq_true rfl) hw hS dX8_readType_36 (fun v9 x_9 H locs t9 h hw hS => ?_)
    refine y_if_eq C t9 dX8_readType_39 (tgt := 46) (by decide) (fun c10 => ?_) (fun c10 => ?_)
    · have h := h.1 c10
      refine y_iconst C dX8_readType_46 ⟨by decide, by decide⟩ (fun v11 t11 => ?_)
      exact uX8_readType_47 C hw hS t4 t7 t11 (lv_sub hl [2, 1, 0] rfl)  h
    · have h := h.2 c10
      refine y_iconst C dX8_readType_42 ⟨by decide, by decide⟩ (fun v12 t12 => ?_)
      refine lv_goto (tgt := 47) C.1.1 C.1.2.1 dX8_readType_43 (by decide) ?_
      exact uX8_readType_47 C hw hS t4 t7 t12 (lv_sub hl [2, 1, 0] rfl)  h
  · have h := h.2 c6
    refine lv_aload_n C.1.1 C.1.2.1 dX8_readType_16 rfl (lv_at hl 1 rfl) ?_
    refine y_bipush C dX8_readType_17 ⟨by decide, by decide⟩ (fun v13 t13 => ?_)
    refine lv_aload_n C.1.1 C.1.2.1 dX8_readType_19 rfl (lv_at hl 1 rfl) ?_
    refine y_getI C fl_X8_172 hw (ocr SB) rfl dX8_readType_20 (fun v14 t14 => ?_)
    refine y_cVV C (As := [.int v13, .int v14]) (rest := []) ml_X8_195 (kX8_fails l G SB S t13 t14 h) (ocr SB) (T := TX8) (N := 60) rfl (by decide) ⟨(Nat.le_of_ble_eq_true rfl), (Nat.le_of_ble_eq_true rfl)⟩ hl.1 rfl rfl (Nat.le_of_ble_eq_true rfl) hw hS dX8_readType_23 (fun S_15 H locs h hw hS => ?_)
    exact y_vret C hw hS h dX8_readType_26
theorem kX8_readType (l : Launch) (G : GG) (SB S : St)  {k : St → Prop} (h : wX8_readType S k) : CnV l yX8_readType cX8_readType 5 none 8 185 G (injR SB) [.ref (G.2.2 1042)] S k :=
  cn_body (by decide +kernel) (Nat.le_of_ble_eq_true rfl) (fun p e s m args below meth c ls C hw hl => uX8_readType_0 C hw va_S.rf  (lv_sub hl [0] rfl) h)
set_option maxHeartbeats 4000000 in
set_option maxRecDepth 10000 in
theorem uX8_compile_147 {p : Program} {l : Launch} {e : Env} {s : State} {m : MethodId} {args : Array Value} {below : List Frame} {meth : Method} {c : Code} {G : GG} {SB : St} (C : Cx p s m args meth c G RX8 cX8_compile 1 (some .int)) {S : St} {H : Heap} {locs : List Loc} {ls : Array Slot} {P74 : St → Prop} {k : Int → St → Prop} (hw : Wd G ((injR SB) S) H) (hS : va_S (AG G) s.heap H locs)  (hl : lv_has ls 1 [(0, .ref (G.2.2 1042))]) (hP74 : ∀ {H : Heap} {locs : List Loc} {ls : Array Slot} {Sy : St} , Wd G ((injR SB) Sy) H → va_S (AG G) s.heap H locs → lv_has ls 1 [(0, .ref (G.2.2 1042))] → P74 Sy → W p l e (rmF 9 209) s m args below meth c H locs 0 0 (MQ below (QcI G (injR SB) k) args s 0 0 (AG G)) (F0 m 74 ls [])) (h : wX8_compile_147 S P74 k) : W p l e (rmF 9 209) s m args below meth c H locs 0 0 (MQ below (QcI G (injR SB) k) args s 0 0 (AG G)) (F0 m 147 ls []) := by
  refine lv_aload_n C.1.1 C.1.2.1 dX8_compile_147 rfl (lv_at hl 0 rfl) ?_
  refine y_cVV C (As := []) (rest := []) ml_X8_313 (kX8_readType l G SB S  h) (ocr SB) (T := TX8) (N := 60) rfl (by decide) ⟨(Nat.le_of_ble_eq_true rfl), (Nat.le_of_ble_eq_true rfl)⟩ hl.1 rfl rfl (Nat.le_of_ble_eq_true rfl) hw hS dX8_compile_148 (fun S_1 H locs h hw hS => ?_)
  refine lv_goto (tgt := 74) C.1.1 C.1.2.1 dX8_compile_151 (by decide) ?_
  exact hP74  hw hS (lv_sub hl [0] rfl) h
set_option maxHeartbeats 4000000 in
set_option maxRecDepth 10000 in
theorem uX8_compile_161 {p : Program} {l : Launch} {e : Env} {s : State} {m : MethodId} {args : Array Value} {below : List Frame} {meth : Method} {c : Code} {G : GG} {SB : St} (C : Cx p s m args meth c G RX8 cX8_compile 1 (some .int)) {S : St} {H : Heap} {locs : List Loc} {ls : Array Slot}  {k : Int → St → Prop} (hw : Wd G ((injR SB) S) H) (hS : va_S (AG G) s.heap H locs)  (hl : lv_has ls 1 [(0, .ref (G.2.2 1042))])  (h : wX8_compile_161 S k) : W p l e (rmF 9 209) s m args below meth c H locs 0 0 (MQ below (QcI G (injR SB) k) args s 0 0 (AG G)) (F0 m 161 ls []) := by
  refine lv_aload_n C.1.1 C.1.2.1 dX8_compile_161 rfl (lv_at hl 0 rfl) ?_
  refine y_iconst C dX8_compile_162 ⟨by decide, by decide⟩ (fun v1 t1 => ?_)
  obtain ⟨S_2, e2⟩ : ∃ z : St, z = up S 0 1 0 := ⟨_, rfl⟩
  have h := h S_2 e2
  refine y_putI C fl_X8_161 fp_8_1 hw hS (ocr SB) rfl t1 dX8_compile_163 (fun H locs hw hS => ?_)
  have hw : Wd G ((injR SB) S_2) H := by rw [e2]; exact hw
  refine lv_aload_n C.1.1 C.1.2.1 dX8_compile_166 rfl (lv_at hl 0 rfl) ?_
  refine lv_aload_n C.1.1 C.1.2.1 dX8_compile_167 rfl (lv_at hl 0 rfl) ?_
  refine y_getI C fl_X8_189 hw (ocr SB) rfl dX8_compile_168 (fun v3 t3 => ?_)
  obtain ⟨S_4, e4⟩ : ∃ z : St, z = up S_2 0 2 (S_2 0 8) := ⟨_, rfl⟩
  have h := h S_4 e4
  refine y_putI C fl_X8_316 fp_8_2 hw hS (ocr SB) rfl t3 dX8_compile_171 (fun H locs hw hS => ?_)
  have hw : Wd G ((injR SB) S_4) H := by rw [e4]; exact hw
  refine lv_aload_n C.1.1 C.1.2.1 dX8_compile_174 rfl (lv_at hl 0 rfl) ?_
  refine y_getI C fl_X8_189 hw (ocr SB) rfl dX8_compile_175 (fun v5 t5 => ?_)
  refine y_if_le C t5 dX8_compile_178 (tgt := 189) (by decide) (fun c6 => ?_) (fun c6 => ?_)
  · have h := h.1 c6
    refine lv_aload_n C.1.1 C.1.2.1 dX8_compile_189 rfl (lv_at hl 0 rfl) ?_
    refine lv_aload_n C.1.1 C.1.2.1 dX8_compile_190 rfl (lv_at hl 0 rfl) ?_
    refine y_getI C fl_X8_208 hw (ocr SB) rfl dX8_compile_191 (fun v7 t7 => ?_)
    obtain ⟨S_8, e8⟩ : ∃ z : St, z = up S_4 0 11 (S_4 0 10) := ⟨_, rfl⟩
    have h := h S_8 e8
    refine y_putI C fl_X8_211 fp_8_11 hw hS (ocr SB) rfl t7 dX8_compile_194 (fun H locs hw hS => ?_)
    have hw : Wd G ((injR SB) S_8) H := by rw [e8]; exact hw
    refine lv_aload_n C.1.1 C.1.2.1 dX8_compile_197 rfl (lv_at hl 0 rfl) ?_
    refine y_getA C fl_X8_45 hw (ocr SB) rfl (o := 3) rfl dX8_compile_198 ?_
    refine lv_aload_n C.1.1 C.1.2.1 dX8_compile_201 rfl (lv_at hl 0 rfl) ?_
    refine y_getI C fl_X8_208 hw (ocr SB) rfl dX8_compile_202 (fun v10 t10 => ?_)
    obtain ⟨b11, h⟩ := h
    refine y_iald C hw (acr_12 SB) t10 b11 dX8_compile_205 (fun v11 t11 => ?_)
    exact y_iret C hw hS t11 h dX8_compile_206
  · have h := h.2 c6
    refine y_bipush C dX8_compile_181 ⟨by decide, by decide⟩ (fun v12 t12 => ?_)
    refine lv_aload_n C.1.1 C.1.2.1 dX8_compile_183 rfl (lv_at hl 0 rfl) ?_
    refine y_getI C fl_X8_192 hw (ocr SB) rfl dX8_compile_184 (fun v13 t13 => ?_)
    refine y_isub C t12 t13 dX8_compile_187 (fun v14 t14 => ?_)
    exact y_iret C hw hS t14 h dX8_compile_188
set_option maxHeartbeats 4000000 in
set_option maxRecDepth 10000 in
theorem uX8_compile_74_b {p : Program} {l : Launch} {e : Env} {s : State} {m : MethodId} {args : Array Value} {below : List Frame} {meth : Method} {c : Code} {G : GG} {SB : St} (C : Cx p s m args meth c G RX8 cX8_compile 1 (some .int)) {S : St} {H : Heap} {locs : List Loc} {ls : Array Slot}  {P74 : St → Prop} {k : Int → St → Prop} (hw : Wd G ((injR SB) S) H) (hS : va_S (AG G) s.heap H locs)  (hl : lv_has ls 1 [(0, .ref (G.2.2 1042))])  (hP74 : ∀ {H : Heap} {locs : List Loc} {ls : Array Slot} {Sy : St} , Wd G ((injR SB) Sy) H → va_S (AG G) s.heap H locs → lv_has ls 1 [(0, .ref (G.2.2 1042))] → P74 Sy → W p l e (rmF 9 209) s m args below meth c H locs 0 0 (MQ below (QcI G (injR SB) k) args s 0 0 (AG G)) (F0 m 74 ls [])) (h : wX8_compile_74_b S P74 k) : W p l e (rmF 9 209) s m args below meth c H locs 0 0 (MQ below (QcI G (injR SB) k) args s 0 0 (AG G)) (F0 m 74 ls []) := by
  refine lv_aload_n C.1.1 C.1.2.1 dX8_compile_74 rfl (lv_at hl 0 rfl) ?_
  refine y_cVIp C (As := []) (rest := []) ml_X8_261 (kX8_goesOn l G SB S  h) (ocr SB) (T := TX8) (N := 60) rfl (by decide) ⟨(Nat.le_of_ble_eq_true rfl), (Nat.le_of_ble_eq_true rfl)⟩ hl.1 rfl rfl (Nat.le_of_ble_eq_true rfl) hw hS dX8_compile_75 (fun v1 x_1 H locs t1 h hw hS => ?_)
  refine y_if_eq C t1 dX8_compile_78 (tgt := 161) (by decide) (fun c2 => ?_) (fun c2 => ?_)
  · have h := h.1 c2
    exact uX8_compile_161 C hw hS  (lv_sub hl [0] rfl)  h
  · have h := h.2 c2
    refine lv_aload_n C.1.1 C.1.2.1 dX8_compile_81 rfl (lv_at hl 0 rfl) ?_
    refine y_getI C fl_X8_175 hw (ocr SB) rfl dX8_compile_82 (fun v3 t3 => ?_)
    refine y_if_eq C t3 dX8_compile_85 (tgt := 161) (by decide) (fun c4 => ?_) (fun c4 => ?_)
    · have h := h.1 c4
      exact uX8_compile_161 C hw hS  (lv_sub hl [0] rfl)  h
    · have h := h.2 c4
      refine lv_aload_n C.1.1 C.1.2.1 dX8_compile_88 rfl (lv_at hl 0 rfl) ?_
      refine y_getI C fl_X8_175 hw (ocr SB) rfl dX8_compile_89 (fun v5 t5 => ?_)
      refine y_bipush C dX8_compile_92 ⟨by decide, by decide⟩ (fun v6 t6 => ?_)
      refine y_icmp_ne C t5 t6 dX8_compile_94 (tgt := 104) (by decide) (fun c7 => ?_) (fun c7 => ?_)
      · have h := h.1 c7
        refine lv_aload_n C.1.1 C.1.2.1 dX8_compile_104 rfl (lv_at hl 0 rfl) ?_
        refine y_getI C fl_X8_175 hw (ocr SB) rfl dX8_compile_105 (fun v8 t8 => ?_)
        refine y_bipush C dX8_compile_108 ⟨by decide, by decide⟩ (fun v9 t9 => ?_)
        refine y_icmp_ne C t8 t9 dX8_compile_110 (tgt := 120) (by decide) (fun c10 => ?_) (fun c10 => ?_)
        · have h := h.1 c10
          refine lv_aload_n C.1.1 C.1.2.1 dX8_compile_120 rfl (lv_at hl 0 rfl) ?_
          refine y_getI C fl_X8_175 hw (ocr SB) rfl dX8_compile_121 (fun v11 t11 => ?_)
          refine y_bipush C dX8_compile_124 ⟨by decide, by decide⟩ (fun v12 t12 => ?_)
          refine y_icmp_eq C t11 t12 dX8_compile_126 (tgt := 147) (by decide) (fun c13 => ?_) (fun c13 => ?_)
          · have h := h.1 c13
            exact uX8_compile_147 C hw hS  (lv_sub hl [0] rfl) hP74 h
          · have h := h.2 c13
            refine lv_aload_n C.1.1 C.1.2.1 dX8_compile_129 rfl (lv_at hl 0 rfl) ?_
            refine y_getI C fl_X8_175 hw (ocr SB) rfl dX8_compile_130 (fun v14 t14 => ?_)
            refine y_bipush C dX8_compile_133 ⟨by decide, by decide⟩ (fun v15 t15 => ?_)
            refine y_icmp_eq C t14 t15 dX8_compile_135 (tgt := 147) (by decide) (fun c16 => ?_) (fun c16 => ?_)
            · have h := h.1 c16
              exact uX8_compile_147 C hw hS  (lv_sub hl [0] rfl) hP74 h
            · have h := h.2 c16
              refine lv_aload_n C.1.1 C.1.2.1 dX8_compile_138 rfl (lv_at hl 0 rfl) ?_
              refine y_getI C fl_X8_175 hw (ocr SB) rfl dX8_compile_139 (fun v17 t17 => ?_)
              refine y_bipush C dX8_compile_142 ⟨by decide, by decide⟩ (fun v18 t18 => ?_)
              refine y_icmp_ne C t17 t18 dX8_compile_144 (tgt := 154) (by decide) (fun c19 => ?_) (fun c19 => ?_)
              · have h := h.1 c19
                refine lv_aload_n C.1.1 C.1.2.1 dX8_compile_154 rfl (lv_at hl 0 rfl) ?_
                refine y_cVV C (As := []) (rest := []) ml_X8_205 (kX8_odd l G SB S  h) (ocr SB) (T := TX8) (N := 60) rfl (by decide) ⟨(Nat.le_of_ble_eq_true rfl), (Nat.le_of_ble_eq_true rfl)⟩ hl.1 rfl rfl (Nat.le_of_ble_eq_true rfl) hw hS dX8_compile_155 (fun S_20 H locs h hw hS => ?_)
                refine lv_goto (tgt := 74) C.1.1 C.1.2.1 dX8_compile_158 (by decide) ?_
                exact hP74  hw hS (lv_sub hl [0] rfl) h
              · have h := h.2 c19
                exact uX8_compile_147 C hw hS  (lv_sub hl [0] rfl) hP74 h
        · have h := h.2 c10
          refine lv_aload_n C.1.1 C.1.2.1 dX8_compile_113 rfl (lv_at hl 0 rfl) ?_
          refine y_cVV C (As := []) (rest := []) ml_X8_310 (kX8_readLoader l G SB S  h) (ocr SB) (T := TX8) (N := 60) rfl (by decide) ⟨(Nat.le_of_ble_eq_true rfl), (Nat.le_of_ble_eq_true rfl)⟩ hl.1 rfl rfl (Nat.le_of_ble_eq_true rfl) hw hS dX8_compile_114 (fun S_21 H locs h hw hS => ?_)
          refine lv_goto (tgt := 74) C.1.1 C.1.2.1 dX8_compile_117 (by decide) ?_
          exact hP74  hw hS (lv_sub hl [0] rfl) h
      · have h := h.2 c7
        refine lv_aload_n C.1.1 C.1.2.1 dX8_compile_97 rfl (lv_at hl 0 rfl) ?_
        refine y_cVV C (As := []) (rest := []) ml_X8_307 (kX8_readPackage l G SB S  h) (ocr SB) (T := TX8) (N := 60) rfl (by decide) ⟨(Nat.le_of_ble_eq_true rfl), (Nat.le_of_ble_eq_true rfl)⟩ hl.1 rfl rfl (Nat.le_of_ble_eq_true rfl) hw hS dX8_compile_98 (fun S_22 H locs h hw hS => ?_)
        refine lv_goto (tgt := 74) C.1.1 C.1.2.1 dX8_compile_101 (by decide) ?_
        exact hP74  hw hS (lv_sub hl [0] rfl) h
set_option maxHeartbeats 4000000 in
set_option maxRecDepth 10000 in
theorem uX8_compile_74 {p : Program} {l : Launch} {e : Env} {s : State} {m : MethodId} {args : Array Value} {below : List Frame} {meth : Method} {c : Code} {G : GG} {SB : St} (C : Cx p s m args meth c G RX8 cX8_compile 1 (some .int)) {S : St} {H : Heap} {locs : List Loc} {ls : Array Slot}  {k : Int → St → Prop} (hw : Wd G ((injR SB) S) H) (hS : va_S (AG G) s.heap H locs)  (hl : lv_has ls 1 [(0, .ref (G.2.2 1042))])  (h : wX8_compile_74 S k) : W p l e (rmF 9 209) s m args below meth c H locs 0 0 (MQ below (QcI G (injR SB) k) args s 0 0 (AG G)) (F0 m 74 ls []) := by
  have key : ∀ (n : Nat) {H : Heap} {locs : List Loc} {ls : Array Slot} {S : St} , Wd G ((injR SB) S) H → va_S (AG G) s.heap H locs → lv_has ls 1 [(0, .ref (G.2.2 1042))] → itP (fun (P : St → Prop) (a : St) => wX8_compile_74_b a (fun b0 => P (b0)) k) n (S) → W p l e (rmF 9 209) s m args below meth c H locs 0 0 (MQ below (QcI G (injR SB) k) args s 0 0 (AG G)) (F0 m 74 ls []) := by
    intro n
    induction n with
    | zero => intro H locs ls S hw hS hl h; exact h.elim
    | succ n ih =>
      intro H locs ls S hw hS hl h
      exact uX8_compile_74_b C hw hS  hl  (P74 := fun b0 => itP _ n (b0)) (fun hw hS hl h => ih hw hS hl h) h
  obtain ⟨n, hn⟩ := h
  exact key n  hw hS hl hn
set_option maxHeartbeats 4000000 in
set_option maxRecDepth 10000 in
theorem uX8_compile_0 {p : Program} {l : Launch} {e : Env} {s : State} {m : MethodId} {args : Array Value} {below : List Frame} {meth : Method} {c : Code} {G : GG} {SB : St} (C : Cx p s m args meth c G RX8 cX8_compile 1 (some .int)) {S : St} {H : Heap} {locs : List Loc} {ls : Array Slot}  {k : Int → St → Prop} (hw : Wd G ((injR SB) S) H) (hS : va_S (AG G) s.heap H locs)  (hl : lv_has ls 1 [(0, .ref (G.2.2 1042))])  (h : wX8_compile_0 S k) : W p l e (rmF 9 209) s m args below meth c H locs 0 0 (MQ below (QcI G (injR SB) k) args s 0 0 (AG G)) (F0 m 0 ls []) := by
  refine lv_aload_n C.1.1 C.1.2.1 dX8_compile_0 rfl (lv_at hl 0 rfl) ?_
  refine y_iconst C dX8_compile_1 ⟨by decide, by decide⟩ (fun v1 t1 => ?_)
  refine lv_aload_n C.1.1 C.1.2.1 dX8_compile_2 rfl (lv_at hl 0 rfl) ?_
  refine y_getI C fl_X8_211 hw (ocr SB) rfl dX8_compile_3 (fun v2 t2 => ?_)
  refine y_isub C t1 t2 dX8_compile_6 (fun v3 t3 => ?_)
  obtain ⟨S_4, e4⟩ : ∃ z : St, z = up S 0 10 (w32 (1 - (S 0 11))) := ⟨_, rfl⟩
  have h := h S_4 e4
  refine y_putI C fl_X8_208 fp_8_10 hw hS (ocr SB) rfl t3 dX8_compile_7 (fun H locs hw hS => ?_)
  have hw : Wd G ((injR SB) S_4) H := by rw [e4]; exact hw
  refine lv_aload_n C.1.1 C.1.2.1 dX8_compile_10 rfl (lv_at hl 0 rfl) ?_
  refine y_getA C fl_X8_45 hw (ocr SB) rfl (o := 3) rfl dX8_compile_11 ?_
  refine lv_aload_n C.1.1 C.1.2.1 dX8_compile_14 rfl (lv_at hl 0 rfl) ?_
  refine y_getI C fl_X8_208 hw (ocr SB) rfl dX8_compile_15 (fun v6 t6 => ?_)
  refine y_iconst C dX8_compile_18 ⟨by decide, by decide⟩ (fun v7 t7 => ?_)
  obtain ⟨b8, h⟩ := h
  obtain ⟨S_8, e8⟩ : ∃ z : St, z = up S_4 3 (S_4 0 10) 0 := ⟨_, rfl⟩
  have h := h S_8 e8
  refine y_iast C hw hS (acr_12 SB) t6 t7 b8 dX8_compile_19 (fun H locs hw hS => ?_)
  have hw : Wd G ((injR SB) S_8) H := by rw [e8]; exact hw
  refine lv_aload_n C.1.1 C.1.2.1 dX8_compile_20 rfl (lv_at hl 0 rfl) ?_
  refine y_getA C fl_X8_49 hw (ocr SB) rfl (o := 4) rfl dX8_compile_21 ?_
  refine lv_aload_n C.1.1 C.1.2.1 dX8_compile_24 rfl (lv_at hl 0 rfl) ?_
  refine y_getI C fl_X8_208 hw (ocr SB) rfl dX8_compile_25 (fun v10 t10 => ?_)
  refine y_iconst C dX8_compile_28 ⟨by decide, by decide⟩ (fun v11 t11 => ?_)
  obtain ⟨b12, h⟩ := h
  obtain ⟨S_12, e12⟩ : ∃ z : St, z = up S_8 4 (S_8 0 10) 0 := ⟨_, rfl⟩
  have h := h S_12 e12
  refine y_iast C hw hS (acr_13 SB) t10 t11 b12 dX8_compile_29 (fun H locs hw hS => ?_)
  have hw : Wd G ((injR SB) S_12) H := by rw [e12]; exact hw
  refine lv_aload_n C.1.1 C.1.2.1 dX8_compile_30 rfl (lv_at hl 0 rfl) ?_
  refine y_getA C fl_X8_52 hw (ocr SB) rfl (o := 5) rfl dX8_compile_31 ?_
  refine lv_aload_n C.1.1 C.1.2.1 dX8_compile_34 rfl (lv_at hl 0 rfl) ?_
  refine y_getI C fl_X8_208 hw (ocr SB) rfl dX8_compile_35 (fun v14 t14 => ?_)
  refine y_iconst C dX8_compile_38 ⟨by decide, by decide⟩ (fun v15 t15 => ?_)
  obtain ⟨b16, h⟩ := h
  obtain ⟨S_16, e16⟩ : ∃ z : St, z = up S_12 5 (S_12 0 10) 0 := ⟨_, rfl⟩
  have h := h S_16 e16
  refine y_iast C hw hS (acr_14 SB) t14 t15 b16 dX8_compile_39 (fun H locs hw hS => ?_)
  have hw : Wd G ((injR SB) S_16) H := by rw [e16]; exact hw
  refine lv_aload_n C.1.1 C.1.2.1 dX8_compile_40 rfl (lv_at hl 0 rfl) ?_
  refine y_getA C fl_X8_55 hw (ocr SB) rfl (o := 6) rfl dX8_compile_41 ?_
  refine lv_aload_n C.1.1 C.1.2.1 dX8_compile_44 rfl (lv_at hl 0 rfl) ?_
  refine y_getI C fl_X8_208 hw (ocr SB) rfl dX8_compile_45 (fun v18 t18 => ?_)
  refine y_iconst C dX8_compile_48 ⟨by decide, by decide⟩ (fun v19 t19 => ?_)
  obtain ⟨b20, h⟩ := h
  obtain ⟨S_20, e20⟩ : ∃ z : St, z = up S_16 6 (S_16 0 10) 0 := ⟨_, rfl⟩
  have h := h S_20 e20
  refine y_iast C hw hS (acr_15 SB) t18 t19 b20 dX8_compile_49 (fun H locs hw hS => ?_)
  have hw : Wd G ((injR SB) S_20) H := by rw [e20]; exact hw
  refine lv_aload_n C.1.1 C.1.2.1 dX8_compile_50 rfl (lv_at hl 0 rfl) ?_
  refine y_iconst C dX8_compile_51 ⟨by decide, by decide⟩ (fun v21 t21 => ?_)
  obtain ⟨S_22, e22⟩ : ∃ z : St, z = up S_20 0 46 0 := ⟨_, rfl⟩
  have h := h S_22 e22
  refine y_putI C fl_X8_246 fp_8_46 hw hS (ocr SB) rfl t21 dX8_compile_52 (fun H locs hw hS => ?_)
  have hw : Wd G ((injR SB) S_22) H := by rw [e22]; exact hw
  refine lv_aload_n C.1.1 C.1.2.1 dX8_compile_55 rfl (lv_at hl 0 rfl) ?_
  refine y_iconst C dX8_compile_56 ⟨by decide, by decide⟩ (fun v23 t23 => ?_)
  obtain ⟨S_24, e24⟩ : ∃ z : St, z = up S_22 0 47 0 := ⟨_, rfl⟩
  have h := h S_24 e24
  refine y_putI C fl_X8_255 fp_8_47 hw hS (ocr SB) rfl t23 dX8_compile_57 (fun H locs hw hS => ?_)
  have hw : Wd G ((injR SB) S_24) H := by rw [e24]; exact hw
  refine lv_aload_n C.1.1 C.1.2.1 dX8_compile_60 rfl (lv_at hl 0 rfl) ?_
  refine y_iconst C dX8_compile_61 ⟨by decide, by decide⟩ (fun v25 t25 => ?_)
  obtain ⟨S_26, e26⟩ : ∃ z : St, z = up S_24 0 4 0 := ⟨_, rfl⟩
  have h := h S_26 e26
  refine y_putI C fl_X8_169 fp_8_4 hw hS (ocr SB) rfl t25 dX8_compile_62 (fun H locs hw hS => ?_)
  have hw : Wd G ((injR SB) S_26) H := by rw [e26]; exact hw
  refine lv_aload_n C.1.1 C.1.2.1 dX8_compile_65 rfl (lv_at hl 0 rfl) ?_
  refine y_iconst C dX8_compile_66 ⟨by decide, by decide⟩ (fun v27 t27 => ?_)
  obtain ⟨S_28, e28⟩ : ∃ z : St, z = up S_26 0 8 0 := ⟨_, rfl⟩
  have h := h S_28 e28
  refine y_putI C fl_X8_189 fp_8_8 hw hS (ocr SB) rfl t27 dX8_compile_67 (fun H locs hw hS => ?_)
  have hw : Wd G ((injR SB) S_28) H := by rw [e28]; exact hw
  refine lv_aload_n C.1.1 C.1.2.1 dX8_compile_70 rfl (lv_at hl 0 rfl) ?_
  refine y_cVV C (As := []) (rest := []) ml_X8_202 (kX8_next l G SB S_28  h) (ocr SB) (T := TX8) (N := 60) rfl (by decide) ⟨(Nat.le_of_ble_eq_true rfl), (Nat.le_of_ble_eq_true rfl)⟩ hl.1 rfl rfl (Nat.le_of_ble_eq_true rfl) hw hS dX8_compile_71 (fun S_29 H locs h hw hS => ?_)
  exact uX8_compile_74 C hw hS  (lv_sub hl [0] rfl)  h
theorem kX8_compile (l : Launch) (G : GG) (SB S : St)  {k : Int → St → Prop} (h : wX8_compile S k) : CnI l yX8_compile cX8_compile 1 (some .int) 9 209 G (injR SB) [.ref (G.2.2 1042)] S k :=
  cn_body (by decide +kernel) (Nat.le_of_ble_eq_true rfl) (fun p e s m args below meth c ls C hw hl => uX8_compile_0 C hw va_S.rf  (lv_sub hl [0] rfl) h)
set_option maxHeartbeats 4000000 in
set_option maxRecDepth 10000 in
theorem uX8_fault_0 {p : Program} {l : Launch} {e : Env} {s : State} {m : MethodId} {args : Array Value} {below : List Frame} {meth : Method} {c : Code} {G : GG} {SB : St} (C : Cx p s m args meth c G RX8 cX8_fault 1 (some .int)) {S : St} {H : Heap} {locs : List Loc} {ls : Array Slot}  {k : Int → Prop} (hw : Wd G ((injR SB) S) H) (hS : va_S (AG G) s.heap H locs)  (hl : lv_has ls 1 [(0, .ref (G.2.2 1042))])  (h : wX8_fault_0 S k) : W p l e (rmF 0 0) s m args below meth c H locs 0 0 (MQ below (QcI G (injR SB) (fun r u => k r ∧ u = S)) args s 0 0 (AG G)) (F0 m 0 ls []) := by
  refine lv_aload_n C.1.1 C.1.2.1 dX8_fault_0 rfl (lv_at hl 0 rfl) ?_
  refine y_getI C fl_X8_316 hw (ocr SB) rfl dX8_fault_1 (fun v1 t1 => ?_)
  exact y_iret C hw hS t1 ⟨h, rfl⟩ dX8_fault_4
theorem kX8_fault (l : Launch) (G : GG) (SB S : St)  {k : Int → Prop} (h : wX8_fault S k) : CnI l yX8_fault cX8_fault 1 (some .int) 0 0 G (injR SB) [.ref (G.2.2 1042)] S (fun r u => k r ∧ u = S) :=
  cn_body (by decide +kernel) (Nat.le_of_ble_eq_true rfl) (fun p e s m args below meth c ls C hw hl => uX8_fault_0 C hw va_S.rf  (lv_sub hl [0] rfl) h)
set_option maxHeartbeats 4000000 in
set_option maxRecDepth 10000 in
theorem uX8_type_0 {p : Program} {l : Launch} {e : Env} {s : State} {m : MethodId} {args : Array Value} {below : List Frame} {meth : Method} {c : Code} {G : GG} {SB : St} (C : Cx p s m args meth c G RX8 cX8_type 4 (some .int)) {S : St} {H : Heap} {locs : List Loc} {ls : Array Slot}  {k : Int → St → Prop} (hw : Wd G ((injR SB) S) H) (hS : va_S (AG G) s.heap H locs) {xv1 : Int32} {x1 : Int} (xt1 : xv1.toInt = x1) {xv2 : Int32} {x2 : Int} (xt2 : xv2.toInt = x2) (hl : lv_has ls 4 [(0, .ref (G.2.2 1042)), (1, .int xv1), (2, .int xv2)])  (h : wX8_type_0 S x1 x2 k) : W p l e (rmF 2 43) s m args below meth c H locs 0 0 (MQ below (QcI G (injR SB) k) args s 0 0 (AG G)) (F0 m 0 ls []) := by
  refine lv_aload_n C.1.1 C.1.2.1 dX8_type_0 rfl (lv_at hl 0 rfl) ?_
  refine lv_iload_n C.1.1 C.1.2.1 dX8_type_1 rfl (lv_at hl 1 rfl) ?_
  refine y_cVI C (As := [.int xv1]) (rest := []) ml_X8_371 (kX8_isType l G SB S xt1 h) (ocr SB) (T := TX8) (N := 60) rfl (by decide) ⟨(Nat.le_of_ble_eq_true rfl), (Nat.le_of_ble_eq_true rfl)⟩ hl.1 rfl rfl (Nat.le_of_ble_eq_true rfl) hw hS dX8_type_2 (fun v1 x_1 S_1 H locs t1 h hw hS => ?_)
  refine y_if_ne C t1 dX8_type_5 (tgt := 11) (by decide) (fun c2 => ?_) (fun c2 => ?_)
  · have h := h.1 c2
    refine lv_aload_n C.1.1 C.1.2.1 dX8_type_11 rfl (lv_at hl 0 rfl) ?_
    refine lv_iload_n C.1.1 C.1.2.1 dX8_type_12 rfl (lv_at hl 1 rfl) ?_
    refine y_cVIp C (As := [.int xv1]) (rest := []) ml_X8_214 (kX8_t l G SB S_1 xt1 h) (ocr SB) (T := TX8) (N := 60) rfl (by decide) ⟨(Nat.le_of_ble_eq_true rfl), (Nat.le_of_ble_eq_true rfl)⟩ hl.1 rfl rfl (Nat.le_of_ble_eq_true rfl) hw hS dX8_type_13 (fun v3 x_3 H locs t3 h hw hS => ?_)
    refine lv_istore_n (lv' := [(3, .int v3), (0, .ref (G.2.2 1042)), (1, .int xv1), (2, .int xv2)]) C.1.1 C.1.2.1 dX8_type_16 rfl hl (by decide) rfl (fun ls hl => ?_)
    refine lv_iload_n C.1.1 C.1.2.1 dX8_type_17 rfl (lv_at hl 3 rfl) ?_
    by_cases c4_0 : x2 = 0
    · have h := h.1 c4_0
      refine y_tabIn C xt2 c4_0 dX8_type_18 (by decide) (by decide) (off := 54) (by decide +kernel) (tgt := 72) (by decide) ?_
      refine lv_aload_n C.1.1 C.1.2.1 dX8_type_72 rfl (lv_at hl 1 rfl) ?_
      refine y_getA C fl_X8_64 hw (ocr SB) rfl (o := 9) rfl dX8_type_73 ?_
      refine lv_iload_n C.1.1 C.1.2.1 dX8_type_76 rfl (lv_at hl 0 rfl) ?_
      obtain ⟨b6, h⟩ := h
      refine y_iald C hw (acr_18 SB) t3 b6 dX8_type_77 (fun v6 t6 => ?_)
      exact y_iret C hw hS t6 h dX8_type_78
    have h := h.2
    by_cases c4_1 : x2 = 1
    · have h := h.1 c4_1
      refine y_tabIn C xt2 c4_1 dX8_type_18 (by decide) (by decide) (off := 61) (by decide +kernel) (tgt := 79) (by decide) ?_
      refine lv_aload_n C.1.1 C.1.2.1 dX8_type_79 rfl (lv_at hl 1 rfl) ?_
      refine y_getA C fl_X8_67 hw (ocr SB) rfl (o := 10) rfl dX8_type_80 ?_
      refine lv_iload_n C.1.1 C.1.2.1 dX8_type_83 rfl (lv_at hl 0 rfl) ?_
      obtain ⟨b8, h⟩ := h
      refine y_iald C hw (acr_19 SB) t3 b8 dX8_type_84 (fun v8 t8 => ?_)
      exact y_iret C hw hS t8 h dX8_type_85
    have h := h.2
    by_cases c4_2 : x2 = 2
    · have h := h.1 c4_2
      refine y_tabIn C xt2 c4_2 dX8_type_18 (by decide) (by decide) (off := 68) (by decide +kernel) (tgt := 86) (by decide) ?_
      refine lv_aload_n C.1.1 C.1.2.1 dX8_type_86 rfl (lv_at hl 1 rfl) ?_
      refine y_getA C fl_X8_70 hw (ocr SB) rfl (o := 11) rfl dX8_type_87 ?_
      refine lv_iload_n C.1.1 C.1.2.1 dX8_type_90 rfl (lv_at hl 0 rfl) ?_
      obtain ⟨b10, h⟩ := h
      refine y_iald C hw (acr_20 SB) t3 b10 dX8_type_91 (fun v10 t10 => ?_)
      exact y_iret C hw hS t10 h dX8_type_92
    have h := h.2
    by_cases c4_3 : x2 = 3
    · have h := h.1 c4_3
      refine y_tabIn C xt2 c4_3 dX8_type_18 (by decide) (by decide) (off := 75) (by decide +kernel) (tgt := 93) (by decide) ?_
      refine lv_aload_n C.1.1 C.1.2.1 dX8_type_93 rfl (lv_at hl 1 rfl) ?_
      refine y_getA C fl_X8_94 hw (ocr SB) rfl (o := 19) rfl dX8_type_94 ?_
      refine lv_iload_n C.1.1 C.1.2.1 dX8_type_97 rfl (lv_at hl 0 rfl) ?_
      obtain ⟨b12, h⟩ := h
      refine y_iald C hw (acr_28 SB) t3 b12 dX8_type_98 (fun v12 t12 => ?_)
      exact y_iret C hw hS t12 h dX8_type_99
    have h := h.2
    by_cases c4_4 : x2 = 4
    · have h := h.1 c4_4
      refine y_tabIn C xt2 c4_4 dX8_type_18 (by decide) (by decide) (off := 82) (by decide +kernel) (tgt := 100) (by decide) ?_
      refine lv_aload_n C.1.1 C.1.2.1 dX8_type_100 rfl (lv_at hl 1 rfl) ?_
      refine y_getA C fl_X8_73 hw (ocr SB) rfl (o := 12) rfl dX8_type_101 ?_
      refine lv_iload_n C.1.1 C.1.2.1 dX8_type_104 rfl (lv_at hl 0 rfl) ?_
      obtain ⟨b14, h⟩ := h
      refine y_iald C hw (acr_21 SB) t3 b14 dX8_type_105 (fun v14 t14 => ?_)
      exact y_iret C hw hS t14 h dX8_type_106
    have h := h.2
    by_cases c4_5 : x2 = 5
    · have h := h.1 c4_5
      refine y_tabIn C xt2 c4_5 dX8_type_18 (by decide) (by decide) (off := 89) (by decide +kernel) (tgt := 107) (by decide) ?_
      refine lv_aload_n C.1.1 C.1.2.1 dX8_type_107 rfl (lv_at hl 1 rfl) ?_
      refine y_getA C fl_X8_113 hw (ocr SB) rfl (o := 25) rfl dX8_type_108 ?_
      refine lv_iload_n C.1.1 C.1.2.1 dX8_type_111 rfl (lv_at hl 0 rfl) ?_
      obtain ⟨b16, h⟩ := h
      refine y_iald C hw (acr_34 SB) t3 b16 dX8_type_112 (fun v16 t16 => ?_)
      exact y_iret C hw hS t16 h dX8_type_113
    have h := h.2
    by_cases c4_6 : x2 = 6
    · have h := h.1 c4_6
      refine y_tabIn C xt2 c4_6 dX8_type_18 (by decide) (by decide) (off := 96) (by decide +kernel) (tgt := 114) (by decide) ?_
      refine lv_aload_n C.1.1 C.1.2.1 dX8_type_114 rfl (lv_at hl 1 rfl) ?_
      refine y_getA C fl_X8_119 hw (ocr SB) rfl (o := 27) rfl dX8_type_115 ?_
      refine lv_iload_n C.1.1 C.1.2.1 dX8_type_118 rfl (lv_at hl 0 rfl) ?_
      obtain ⟨b18, h⟩ := h
      refine y_iald C hw (acr_36 SB) t3 b18 dX8_type_119 (fun v18 t18 => ?_)
      exact y_iret C hw hS t18 h dX8_type_120
    have h := h.2
    by_cases c4_7 : x2 = 7
    · have h := h.1 c4_7
      refine y_tabIn C xt2 c4_7 dX8_type_18 (by decide) (by decide) (off := 103) (by decide +kernel) (tgt := 121) (by decide) ?_
      refine lv_aload_n C.1.1 C.1.2.1 dX8_type_121 rfl (lv_at hl 1 rfl) ?_
      refine y_getA C fl_X8_76 hw (ocr SB) rfl (o := 13) rfl dX8_type_122 ?_
      refine lv_iload_n C.1.1 C.1.2.1 dX8_type_125 rfl (lv_at hl 0 rfl) ?_
      obtain ⟨b20, h⟩ := h
      refine y_iald C hw (acr_22 SB) t3 b20 dX8_type_126 (fun v20 t20 => ?_)
      exact y_iret C hw hS t20 h dX8_type_127
    have h := h.2
    by_cases c4_8 : x2 = 8
    · have h := h.1 c4_8
      refine y_tabIn C xt2 c4_8 dX8_type_18 (by decide) (by decide) (off := 110) (by decide +kernel) (tgt := 128) (by decide) ?_
      refine lv_aload_n C.1.1 C.1.2.1 dX8_type_128 rfl (lv_at hl 1 rfl) ?_
      refine y_getA C fl_X8_97 hw (ocr SB) rfl (o := 20) rfl dX8_type_129 ?_
      refine lv_iload_n C.1.1 C.1.2.1 dX8_type_132 rfl (lv_at hl 0 rfl) ?_
      obtain ⟨b22, h⟩ := h
      refine y_iald C hw (acr_29 SB) t3 b22 dX8_type_133 (fun v22 t22 => ?_)
      exact y_iret C hw hS t22 h dX8_type_134
    have h := h.2
    by_cases c4_9 : x2 = 9
    · have h := h.1 c4_9
      refine y_tabIn C xt2 c4_9 dX8_type_18 (by decide) (by decide) (off := 117) (by decide +kernel) (tgt := 135) (by decide) ?_
      refine lv_aload_n C.1.1 C.1.2.1 dX8_type_135 rfl (lv_at hl 1 rfl) ?_
      refine y_getA C fl_X8_113 hw (ocr SB) rfl (o := 25) rfl dX8_type_136 ?_
      refine lv_iload_n C.1.1 C.1.2.1 dX8_type_139 rfl (lv_at hl 0 rfl) ?_
      obtain ⟨b24, h⟩ := h
      refine y_iald C hw (acr_34 SB) t3 b24 dX8_type_140 (fun v24 t24 => ?_)
      refine y_if_le C t24 dX8_type_141 (tgt := 153) (by decide) (fun c25 => ?_) (fun c25 => ?_)
      · have h := h.1 c25
        refine y_bipush C dX8_type_153 ⟨by decide, by decide⟩ (fun v26 t26 => ?_)
        exact y_iret C hw hS t26 h dX8_type_155
      · have h := h.2 c25
        refine lv_aload_n C.1.1 C.1.2.1 dX8_type_144 rfl (lv_at hl 1 rfl) ?_
        refine y_getA C fl_X8_110 hw (ocr SB) rfl (o := 24) rfl dX8_type_145 ?_
        refine lv_iload_n C.1.1 C.1.2.1 dX8_type_148 rfl (lv_at hl 0 rfl) ?_
        obtain ⟨b28, h⟩ := h
        refine y_iald C hw (acr_33 SB) t3 b28 dX8_type_149 (fun v28 t28 => ?_)
        refine lv_goto (tgt := 155) C.1.1 C.1.2.1 dX8_type_150 (by decide) ?_
        exact y_iret C hw hS t28 h dX8_type_155
    have h := h.2
    have c4 := sw_0_9 c4_0 c4_1 c4_2 c4_3 c4_4 c4_5 c4_6 c4_7 c4_8 c4_9
    have h := h c4
    refine y_tabOut C xt2 c4 dX8_type_18 (tgt := 156) (by decide) ?_
    refine y_bipush C dX8_type_156 ⟨by decide, by decide⟩ (fun v29 t29 => ?_)
    exact y_iret C hw hS t29 h dX8_type_158
  · have h := h.2 c2
    refine y_bipush C dX8_type_8 ⟨by decide, by decide⟩ (fun v30 t30 => ?_)
    exact y_iret C hw hS t30 h dX8_type_10
theorem kX8_type (l : Launch) (G : GG) (SB S : St) {xv1 : Int32} {x1 : Int} (xt1 : xv1.toInt = x1) {xv2 : Int32} {x2 : Int} (xt2 : xv2.toInt = x2) {k : Int → St → Prop} (h : wX8_type S x1 x2 k) : CnI l yX8_type cX8_type 4 (some .int) 2 43 G (injR SB) [.ref (G.2.2 1042), .int xv1, .int xv2] S k :=
  cn_body (by decide +kernel) (Nat.le_of_ble_eq_true rfl) (fun p e s m args below meth c ls C hw hl => uX8_type_0 C hw va_S.rf xt1 xt2 (lv_sub hl [0, 1, 2] rfl) h)
set_option maxHeartbeats 4000000 in
set_option maxRecDepth 10000 in
theorem uX8_above_0 {p : Program} {l : Launch} {e : Env} {s : State} {m : MethodId} {args : Array Value} {below : List Frame} {meth : Method} {c : Code} {G : GG} {SB : St} (C : Cx p s m args meth c G RX8 cX8_above 3 (some .int)) {S : St} {H : Heap} {locs : List Loc} {ls : Array Slot}  {k : Int → St → Prop} (hw : Wd G ((injR SB) S) H) (hS : va_S (AG G) s.heap H locs) {xv1 : Int32} {x1 : Int} (xt1 : xv1.toInt = x1) {xv2 : Int32} {x2 : Int} (xt2 : xv2.toInt = x2) (hl : lv_has ls 3 [(0, .ref (G.2.2 1042)), (1, .int xv1), (2, .int xv2)])  (h : wX8_above_0 S x1 x2 k) : W p l e (rmF 2 43) s m args below meth c H locs 0 0 (MQ below (QcI G (injR SB) k) args s 0 0 (AG G)) (F0 m 0 ls []) := by
  refine lv_aload_n C.1.1 C.1.2.1 dX8_above_0 rfl (lv_at hl 0 rfl) ?_
  refine lv_iload_n C.1.1 C.1.2.1 dX8_above_1 rfl (lv_at hl 1 rfl) ?_
  refine y_cVI C (As := [.int xv1]) (rest := []) ml_X8_371 (kX8_isType l G SB S xt1 h) (ocr SB) (T := TX8) (N := 60) rfl (by decide) ⟨(Nat.le_of_ble_eq_true rfl), (Nat.le_of_ble_eq_true rfl)⟩ hl.1 rfl rfl (Nat.le_of_ble_eq_true rfl) hw hS dX8_above_2 (fun v1 x_1 S_1 H locs t1 h hw hS => ?_)
  refine y_if_ne C t1 dX8_above_5 (tgt := 11) (by decide) (fun c2 => ?_) (fun c2 => ?_)
  · have h := h.1 c2
    refine lv_iload_n C.1.1 C.1.2.1 dX8_above_11 rfl (lv_at hl 2 rfl) ?_
    refine y_iconst C dX8_above_12 ⟨by decide, by decide⟩ (fun v3 t3 => ?_)
    refine lv_aload_n C.1.1 C.1.2.1 dX8_above_13 rfl (lv_at hl 0 rfl) ?_
    refine y_getA C fl_X8_97 hw (ocr SB) rfl (o := 20) rfl dX8_above_14 ?_
    refine lv_aload_n C.1.1 C.1.2.1 dX8_above_17 rfl (lv_at hl 0 rfl) ?_
    refine lv_iload_n C.1.1 C.1.2.1 dX8_above_18 rfl (lv_at hl 1 rfl) ?_
    refine y_cVIp C (As := [.int xv1]) (rest := [.ref (G.2.2 (1062)), .int v3, .int xv2]) ml_X8_214 (kX8_t l G SB S_1 xt1 h) (ocr SB) (T := TX8) (N := 60) rfl (by decide) ⟨(Nat.le_of_ble_eq_true rfl), (Nat.le_of_ble_eq_true rfl)⟩ hl.1 rfl rfl (Nat.le_of_ble_eq_true rfl) hw hS dX8_above_19 (fun v5 x_5 H locs t5 h hw hS => ?_)
    obtain ⟨b6, h⟩ := h
    refine y_iald C hw (acr_29 SB) t5 b6 dX8_above_22 (fun v6 t6 => ?_)
    refine y_iconst C dX8_above_23 ⟨by decide, by decide⟩ (fun v7 t7 => ?_)
    refine y_isub C t6 t7 dX8_above_24 (fun v8 t8 => ?_)
    refine y_cSIp C (As := [.int xv2, .int v3, .int v8]) (rest := []) ms_X8_165 (kX8_in l G SB S_1 xt2 t3 t8 h) ⟨(Nat.le_of_ble_eq_true rfl), (Nat.le_of_ble_eq_true rfl)⟩ hl.1 rfl rfl (Nat.le_of_ble_eq_true rfl) hw hS dX8_above_25 (fun v9 x_9 H locs t9 h hw hS => ?_)
    refine y_if_eq C t9 dX8_above_28 (tgt := 49) (by decide) (fun c10 => ?_) (fun c10 => ?_)
    · have h := h.1 c10
      refine y_bipush C dX8_above_49 ⟨by decide, by decide⟩ (fun v11 t11 => ?_)
      exact y_iret C hw hS t11 h dX8_above_51
    · have h := h.2 c10
      refine lv_aload_n C.1.1 C.1.2.1 dX8_above_31 rfl (lv_at hl 0 rfl) ?_
      refine y_getA C fl_X8_100 hw (ocr SB) rfl (o := 21) rfl dX8_above_32 ?_
      refine y_bipush C dX8_above_35 ⟨by decide, by decide⟩ (fun v13 t13 => ?_)
      refine lv_aload_n C.1.1 C.1.2.1 dX8_above_37 rfl (lv_at hl 0 rfl) ?_
      refine lv_iload_n C.1.1 C.1.2.1 dX8_above_38 rfl (lv_at hl 1 rfl) ?_
      refine y_cVIp C (As := [.int xv1]) (rest := [.int v13, .ref (G.2.2 (1063))]) ml_X8_214 (kX8_t l G SB S_1 xt1 h) (ocr SB) (T := TX8) (N := 60) rfl (by decide) ⟨(Nat.le_of_ble_eq_true rfl), (Nat.le_of_ble_eq_true rfl)⟩ hl.1 rfl rfl (Nat.le_of_ble_eq_true rfl) hw hS dX8_above_39 (fun v14 x_14 H locs t14 h hw hS => ?_)
      refine y_imul C t13 t14 dX8_above_42 (fun v15 t15 => ?_)
      refine lv_iload_n C.1.1 C.1.2.1 dX8_above_43 rfl (lv_at hl 2 rfl) ?_
      refine y_iadd C t15 xt2 dX8_above_44 (fun v16 t16 => ?_)
      obtain ⟨b17, h⟩ := h
      refine y_iald C hw (acr_30 SB) t16 b17 dX8_above_45 (fun v17 t17 => ?_)
      refine lv_goto (tgt := 51) C.1.1 C.1.2.1 dX8_above_46 (by decide) ?_
      exact y_iret C hw hS t17 h dX8_above_51
  · have h := h.2 c2
    refine y_bipush C dX8_above_8 ⟨by decide, by decide⟩ (fun v18 t18 => ?_)
    exact y_iret C hw hS t18 h dX8_above_10
theorem kX8_above (l : Launch) (G : GG) (SB S : St) {xv1 : Int32} {x1 : Int} (xt1 : xv1.toInt = x1) {xv2 : Int32} {x2 : Int} (xt2 : xv2.toInt = x2) {k : Int → St → Prop} (h : wX8_above S x1 x2 k) : CnI l yX8_above cX8_above 3 (some .int) 2 43 G (injR SB) [.ref (G.2.2 1042), .int xv1, .int xv2] S k :=
  cn_body (by decide +kernel) (Nat.le_of_ble_eq_true rfl) (fun p e s m args below meth c ls C hw hl => uX8_above_0 C hw va_S.rf xt1 xt2 (lv_sub hl [0, 1, 2] rfl) h)
set_option maxHeartbeats 4000000 in
set_option maxRecDepth 10000 in
theorem uX8_under_0 {p : Program} {l : Launch} {e : Env} {s : State} {m : MethodId} {args : Array Value} {below : List Frame} {meth : Method} {c : Code} {G : GG} {SB : St} (C : Cx p s m args meth c G RX8 cX8_under 3 (some .int)) {S : St} {H : Heap} {locs : List Loc} {ls : Array Slot}  {k : Int → St → Prop} (hw : Wd G ((injR SB) S) H) (hS : va_S (AG G) s.heap H locs) {xv1 : Int32} {x1 : Int} (xt1 : xv1.toInt = x1) {xv2 : Int32} {x2 : Int} (xt2 : xv2.toInt = x2) (hl : lv_has ls 3 [(0, .ref (G.2.2 1042)), (1, .int xv1), (2, .int xv2)])  (h : wX8_under_0 S x1 x2 k) : W p l e (rmF 2 43) s m args below meth c H locs 0 0 (MQ below (QcI G (injR SB) k) args s 0 0 (AG G)) (F0 m 0 ls []) := by
  refine lv_aload_n C.1.1 C.1.2.1 dX8_under_0 rfl (lv_at hl 0 rfl) ?_
  refine lv_iload_n C.1.1 C.1.2.1 dX8_under_1 rfl (lv_at hl 1 rfl) ?_
  refine y_cVI C (As := [.int xv1]) (rest := []) ml_X8_371 (kX8_isType l G SB S xt1 h) (ocr SB) (T := TX8) (N := 60) rfl (by decide) ⟨(Nat.le_of_ble_eq_true rfl), (Nat.le_of_ble_eq_true rfl)⟩ hl.1 rfl rfl (Nat.le_of_ble_eq_true rfl) hw hS dX8_under_2 (fun v1 x_1 S_1 H locs t1 h hw hS => ?_)
  refine y_if_eq C t1 dX8_under_5 (tgt := 16) (by decide) (fun c2 => ?_) (fun c2 => ?_)
  · have h := h.1 c2
    refine y_bipush C dX8_under_16 ⟨by decide, by decide⟩ (fun v3 t3 => ?_)
    exact y_iret C hw hS t3 h dX8_under_18
  · have h := h.2 c2
    refine lv_aload_n C.1.1 C.1.2.1 dX8_under_8 rfl (lv_at hl 0 rfl) ?_
    refine lv_iload_n C.1.1 C.1.2.1 dX8_under_9 rfl (lv_at hl 2 rfl) ?_
    refine y_cVI C (As := [.int xv2]) (rest := []) ml_X8_371 (kX8_isType l G SB S_1 xt2 h) (ocr SB) (T := TX8) (N := 60) rfl (by decide) ⟨(Nat.le_of_ble_eq_true rfl), (Nat.le_of_ble_eq_true rfl)⟩ hl.1 rfl rfl (Nat.le_of_ble_eq_true rfl) hw hS dX8_under_10 (fun v4 x_4 S_4 H locs t4 h hw hS => ?_)
    refine y_if_ne C t4 dX8_under_13 (tgt := 19) (by decide) (fun c5 => ?_) (fun c5 => ?_)
    · have h := h.1 c5
      refine lv_aload_n C.1.1 C.1.2.1 dX8_under_19 rfl (lv_at hl 0 rfl) ?_
      refine lv_iload_n C.1.1 C.1.2.1 dX8_under_20 rfl (lv_at hl 1 rfl) ?_
      refine lv_iload_n C.1.1 C.1.2.1 dX8_under_21 rfl (lv_at hl 2 rfl) ?_
      refine y_cVIp C (As := [.int xv1, .int xv2]) (rest := []) ml_X8_335 (kX8_isUnder l G SB S_4 xt1 xt2 h) (ocr SB) (T := TX8) (N := 60) rfl (by decide) ⟨(Nat.le_of_ble_eq_true rfl), (Nat.le_of_ble_eq_true rfl)⟩ hl.1 rfl rfl (Nat.le_of_ble_eq_true rfl) hw hS dX8_under_22 (fun v6 x_6 H locs t6 h hw hS => ?_)
      refine y_if_eq C t6 dX8_under_25 (tgt := 32) (by decide) (fun c7 => ?_) (fun c7 => ?_)
      · have h := h.1 c7
        refine y_iconst C dX8_under_32 ⟨by decide, by decide⟩ (fun v8 t8 => ?_)
        exact y_iret C hw hS t8 h dX8_under_33
      · have h := h.2 c7
        refine y_iconst C dX8_under_28 ⟨by decide, by decide⟩ (fun v9 t9 => ?_)
        refine lv_goto (tgt := 33) C.1.1 C.1.2.1 dX8_under_29 (by decide) ?_
        exact y_iret C hw hS t9 h dX8_under_33
    · have h := h.2 c5
      refine y_bipush C dX8_under_16 ⟨by decide, by decide⟩ (fun v10 t10 => ?_)
      exact y_iret C hw hS t10 h dX8_under_18
theorem kX8_under (l : Launch) (G : GG) (SB S : St) {xv1 : Int32} {x1 : Int} (xt1 : xv1.toInt = x1) {xv2 : Int32} {x2 : Int} (xt2 : xv2.toInt = x2) {k : Int → St → Prop} (h : wX8_under S x1 x2 k) : CnI l yX8_under cX8_under 3 (some .int) 2 43 G (injR SB) [.ref (G.2.2 1042), .int xv1, .int xv2] S k :=
  cn_body (by decide +kernel) (Nat.le_of_ble_eq_true rfl) (fun p e s m args below meth c ls C hw hl => uX8_under_0 C hw va_S.rf xt1 xt2 (lv_sub hl [0, 1, 2] rfl) h)
set_option maxHeartbeats 4000000 in
set_option maxRecDepth 10000 in
theorem uX8_member_0 {p : Program} {l : Launch} {e : Env} {s : State} {m : MethodId} {args : Array Value} {below : List Frame} {meth : Method} {c : Code} {G : GG} {SB : St} (C : Cx p s m args meth c G RX8 cX8_member 3 (some .int)) {S : St} {H : Heap} {locs : List Loc} {ls : Array Slot}  {k : Int → St → Prop} (hw : Wd G ((injR SB) S) H) (hS : va_S (AG G) s.heap H locs) {xv1 : Int32} {x1 : Int} (xt1 : xv1.toInt = x1) {xv2 : Int32} {x2 : Int} (xt2 : xv2.toInt = x2) (hl : lv_has ls 3 [(0, .ref (G.2.2 1042)), (1, .int xv1), (2, .int xv2)])  (h : wX8_member_0 S x1 x2 k) : W p l e (rmF 2 43) s m args below meth c H locs 0 0 (MQ below (QcI G (injR SB) k) args s 0 0 (AG G)) (F0 m 0 ls []) := by
  refine lv_aload_n C.1.1 C.1.2.1 dX8_member_0 rfl (lv_at hl 0 rfl) ?_
  refine lv_iload_n C.1.1 C.1.2.1 dX8_member_1 rfl (lv_at hl 1 rfl) ?_
  refine y_cVI C (As := [.int xv1]) (rest := []) ml_X8_374 (kX8_isMember l G SB S xt1 h) (ocr SB) (T := TX8) (N := 60) rfl (by decide) ⟨(Nat.le_of_ble_eq_true rfl), (Nat.le_of_ble_eq_true rfl)⟩ hl.1 rfl rfl (Nat.le_of_ble_eq_true rfl) hw hS dX8_member_2 (fun v1 x_1 S_1 H locs t1 h hw hS => ?_)
  refine y_if_ne C t1 dX8_member_5 (tgt := 11) (by decide) (fun c2 => ?_) (fun c2 => ?_)
  · have h := h.1 c2
    refine lv_iload_n C.1.1 C.1.2.1 dX8_member_11 rfl (lv_at hl 2 rfl) ?_
    refine y_if_ne C xt2 dX8_member_12 (tgt := 28) (by decide) (fun c3 => ?_) (fun c3 => ?_)
    · have h := h.1 c3
      refine lv_iload_n C.1.1 C.1.2.1 dX8_member_28 rfl (lv_at hl 2 rfl) ?_
      refine y_iconst C dX8_member_29 ⟨by decide, by decide⟩ (fun v4 t4 => ?_)
      refine y_icmp_ne C xt2 t4 dX8_member_30 (tgt := 46) (by decide) (fun c5 => ?_) (fun c5 => ?_)
      · have h := h.1 c5
        refine lv_iload_n C.1.1 C.1.2.1 dX8_member_46 rfl (lv_at hl 2 rfl) ?_
        refine y_iconst C dX8_member_47 ⟨by decide, by decide⟩ (fun v6 t6 => ?_)
        refine y_icmp_ne C xt2 t6 dX8_member_48 (tgt := 64) (by decide) (fun c7 => ?_) (fun c7 => ?_)
        · have h := h.1 c7
          refine lv_iload_n C.1.1 C.1.2.1 dX8_member_64 rfl (lv_at hl 2 rfl) ?_
          refine y_iconst C dX8_member_65 ⟨by decide, by decide⟩ (fun v8 t8 => ?_)
          refine y_icmp_ne C xt2 t8 dX8_member_66 (tgt := 82) (by decide) (fun c9 => ?_) (fun c9 => ?_)
          · have h := h.1 c9
            refine y_bipush C dX8_member_82 ⟨by decide, by decide⟩ (fun v10 t10 => ?_)
            exact y_iret C hw hS t10 h dX8_member_84
          · have h := h.2 c9
            refine lv_aload_n C.1.1 C.1.2.1 dX8_member_69 rfl (lv_at hl 0 rfl) ?_
            refine y_getA C fl_X8_134 hw (ocr SB) rfl (o := 32) rfl dX8_member_70 ?_
            refine lv_aload_n C.1.1 C.1.2.1 dX8_member_73 rfl (lv_at hl 0 rfl) ?_
            refine lv_iload_n C.1.1 C.1.2.1 dX8_member_74 rfl (lv_at hl 1 rfl) ?_
            refine y_cVIp C (As := [.int xv1]) (rest := [.ref (G.2.2 (1074))]) ml_X8_218 (kX8_m l G SB S_1 xt1 h) (ocr SB) (T := TX8) (N := 60) rfl (by decide) ⟨(Nat.le_of_ble_eq_true rfl), (Nat.le_of_ble_eq_true rfl)⟩ hl.1 rfl rfl (Nat.le_of_ble_eq_true rfl) hw hS dX8_member_75 (fun v12 x_12 H locs t12 h hw hS => ?_)
            obtain ⟨b13, h⟩ := h
            refine y_iald C hw (acr_41 SB) t12 b13 dX8_member_78 (fun v13 t13 => ?_)
            refine lv_goto (tgt := 84) C.1.1 C.1.2.1 dX8_member_79 (by decide) ?_
            exact y_iret C hw hS t13 h dX8_member_84
        · have h := h.2 c7
          refine lv_aload_n C.1.1 C.1.2.1 dX8_member_51 rfl (lv_at hl 0 rfl) ?_
          refine y_getA C fl_X8_131 hw (ocr SB) rfl (o := 31) rfl dX8_member_52 ?_
          refine lv_aload_n C.1.1 C.1.2.1 dX8_member_55 rfl (lv_at hl 0 rfl) ?_
          refine lv_iload_n C.1.1 C.1.2.1 dX8_member_56 rfl (lv_at hl 1 rfl) ?_
          refine y_cVIp C (As := [.int xv1]) (rest := [.ref (G.2.2 (1073))]) ml_X8_218 (kX8_m l G SB S_1 xt1 h) (ocr SB) (T := TX8) (N := 60) rfl (by decide) ⟨(Nat.le_of_ble_eq_true rfl), (Nat.le_of_ble_eq_true rfl)⟩ hl.1 rfl rfl (Nat.le_of_ble_eq_true rfl) hw hS dX8_member_57 (fun v15 x_15 H locs t15 h hw hS => ?_)
          obtain ⟨b16, h⟩ := h
          refine y_iald C hw (acr_40 SB) t15 b16 dX8_member_60 (fun v16 t16 => ?_)
          refine lv_goto (tgt := 84) C.1.1 C.1.2.1 dX8_member_61 (by decide) ?_
          exact y_iret C hw hS t16 h dX8_member_84
      · have h := h.2 c5
        refine lv_aload_n C.1.1 C.1.2.1 dX8_member_33 rfl (lv_at hl 0 rfl) ?_
        refine y_getA C fl_X8_128 hw (ocr SB) rfl (o := 30) rfl dX8_member_34 ?_
        refine lv_aload_n C.1.1 C.1.2.1 dX8_member_37 rfl (lv_at hl 0 rfl) ?_
        refine lv_iload_n C.1.1 C.1.2.1 dX8_member_38 rfl (lv_at hl 1 rfl) ?_
        refine y_cVIp C (As := [.int xv1]) (rest := [.ref (G.2.2 (1072))]) ml_X8_218 (kX8_m l G SB S_1 xt1 h) (ocr SB) (T := TX8) (N := 60) rfl (by decide) ⟨(Nat.le_of_ble_eq_true rfl), (Nat.le_of_ble_eq_true rfl)⟩ hl.1 rfl rfl (Nat.le_of_ble_eq_true rfl) hw hS dX8_member_39 (fun v18 x_18 H locs t18 h hw hS => ?_)
        obtain ⟨b19, h⟩ := h
        refine y_iald C hw (acr_39 SB) t18 b19 dX8_member_42 (fun v19 t19 => ?_)
        refine lv_goto (tgt := 84) C.1.1 C.1.2.1 dX8_member_43 (by decide) ?_
        exact y_iret C hw hS t19 h dX8_member_84
    · have h := h.2 c3
      refine lv_aload_n C.1.1 C.1.2.1 dX8_member_15 rfl (lv_at hl 0 rfl) ?_
      refine y_getA C fl_X8_122 hw (ocr SB) rfl (o := 28) rfl dX8_member_16 ?_
      refine lv_aload_n C.1.1 C.1.2.1 dX8_member_19 rfl (lv_at hl 0 rfl) ?_
      refine lv_iload_n C.1.1 C.1.2.1 dX8_member_20 rfl (lv_at hl 1 rfl) ?_
      refine y_cVIp C (As := [.int xv1]) (rest := [.ref (G.2.2 (1070))]) ml_X8_218 (kX8_m l G SB S_1 xt1 h) (ocr SB) (T := TX8) (N := 60) rfl (by decide) ⟨(Nat.le_of_ble_eq_true rfl), (Nat.le_of_ble_eq_true rfl)⟩ hl.1 rfl rfl (Nat.le_of_ble_eq_true rfl) hw hS dX8_member_21 (fun v21 x_21 H locs t21 h hw hS => ?_)
      obtain ⟨b22, h⟩ := h
      refine y_iald C hw (acr_37 SB) t21 b22 dX8_member_24 (fun v22 t22 => ?_)
      refine lv_goto (tgt := 84) C.1.1 C.1.2.1 dX8_member_25 (by decide) ?_
      exact y_iret C hw hS t22 h dX8_member_84
  · have h := h.2 c2
    refine y_bipush C dX8_member_8 ⟨by decide, by decide⟩ (fun v23 t23 => ?_)
    exact y_iret C hw hS t23 h dX8_member_10
theorem kX8_member (l : Launch) (G : GG) (SB S : St) {xv1 : Int32} {x1 : Int} (xt1 : xv1.toInt = x1) {xv2 : Int32} {x2 : Int} (xt2 : xv2.toInt = x2) {k : Int → St → Prop} (h : wX8_member S x1 x2 k) : CnI l yX8_member cX8_member 3 (some .int) 2 43 G (injR SB) [.ref (G.2.2 1042), .int xv1, .int xv2] S k :=
  cn_body (by decide +kernel) (Nat.le_of_ble_eq_true rfl) (fun p e s m args below meth c ls C hw hl => uX8_member_0 C hw va_S.rf xt1 xt2 (lv_sub hl [0, 1, 2] rfl) h)
set_option maxHeartbeats 4000000 in
set_option maxRecDepth 10000 in
theorem uX8_seen_50 {p : Program} {l : Launch} {e : Env} {s : State} {m : MethodId} {args : Array Value} {below : List Frame} {meth : Method} {c : Code} {G : GG} {SB : St} (C : Cx p s m args meth c G RX8 cX8_seen 4 (some .int)) {S : St} {H : Heap} {locs : List Loc} {ls : Array Slot}  {k : Int → St → Prop} (hw : Wd G ((injR SB) S) H) (hS : va_S (AG G) s.heap H locs) {xv1 : Int32} {x1 : Int} (xt1 : xv1.toInt = x1) {xv2 : Int32} {x2 : Int} (xt2 : xv2.toInt = x2) {xv3 : Int32} {x3 : Int} (xt3 : xv3.toInt = x3) (hl : lv_has ls 4 [(0, .ref (G.2.2 1042)), (1, .int xv1), (2, .int xv2), (3, .int xv3)])  (h : wX8_seen_50 S x1 x2 x3 k) : W p l e (rmF 3 68) s m args below meth c H locs 0 0 (MQ below (QcI G (injR SB) k) args s 0 0 (AG G)) (F0 m 50 ls []) := by
  refine lv_aload_n C.1.1 C.1.2.1 dX8_seen_50 rfl (lv_at hl 0 rfl) ?_
  refine lv_iload_n C.1.1 C.1.2.1 dX8_seen_51 rfl (lv_at hl 1 rfl) ?_
  refine lv_aload_n C.1.1 C.1.2.1 dX8_seen_52 rfl (lv_at hl 0 rfl) ?_
  refine y_getA C fl_X8_122 hw (ocr SB) rfl (o := 28) rfl dX8_seen_53 ?_
  refine lv_aload_n C.1.1 C.1.2.1 dX8_seen_56 rfl (lv_at hl 0 rfl) ?_
  refine lv_iload_n C.1.1 C.1.2.1 dX8_seen_57 rfl (lv_at hl 2 rfl) ?_
  refine y_cVIp C (As := [.int xv2]) (rest := [.ref (G.2.2 (1070)), .int xv1, .ref (G.2.2 1042)]) ml_X8_218 (kX8_m l G SB S xt2 h) (ocr SB) (T := TX8) (N := 60) rfl (by decide) ⟨(Nat.le_of_ble_eq_true rfl), (Nat.le_of_ble_eq_true rfl)⟩ hl.1 rfl rfl (Nat.le_of_ble_eq_true rfl) hw hS dX8_seen_58 (fun v2 x_2 H locs t2 h hw hS => ?_)
  obtain ⟨b3, h⟩ := h
  refine y_iald C hw (acr_37 SB) t2 b3 dX8_seen_61 (fun v3 t3 => ?_)
  refine y_cVIp C (As := [.int xv1, .int v3]) (rest := []) ml_X8_335 (kX8_isUnder l G SB S xt1 t3 h) (ocr SB) (T := TX8) (N := 60) rfl (by decide) ⟨(Nat.le_of_ble_eq_true rfl), (Nat.le_of_ble_eq_true rfl)⟩ hl.1 rfl rfl (Nat.le_of_ble_eq_true rfl) hw hS dX8_seen_62 (fun v4 x_4 H locs t4 h hw hS => ?_)
  refine y_if_ne C t4 dX8_seen_65 (tgt := 73) (by decide) (fun c5 => ?_) (fun c5 => ?_)
  · have h := h.1 c5
    refine lv_aload_n C.1.1 C.1.2.1 dX8_seen_73 rfl (lv_at hl 0 rfl) ?_
    refine lv_iload_n C.1.1 C.1.2.1 dX8_seen_74 rfl (lv_at hl 1 rfl) ?_
    refine lv_iload_n C.1.1 C.1.2.1 dX8_seen_75 rfl (lv_at hl 2 rfl) ?_
    refine lv_iload_n C.1.1 C.1.2.1 dX8_seen_76 rfl (lv_at hl 3 rfl) ?_
    refine y_cVIp C (As := [.int xv1, .int xv2, .int xv3]) (rest := []) ml_X8_229 (kX8_kindSeen l G SB S xt1 xt2 xt3 h) (ocr SB) (T := TX8) (N := 60) rfl (by decide) ⟨(Nat.le_of_ble_eq_true rfl), (Nat.le_of_ble_eq_true rfl)⟩ hl.1 rfl rfl (Nat.le_of_ble_eq_true rfl) hw hS dX8_seen_77 (fun v6 x_6 H locs t6 h hw hS => ?_)
    exact y_iret C hw hS t6 h dX8_seen_80
  · have h := h.2 c5
    refine y_bipush C dX8_seen_68 ⟨by decide, by decide⟩ (fun v7 t7 => ?_)
    refine lv_goto (tgt := 80) C.1.1 C.1.2.1 dX8_seen_70 (by decide) ?_
    exact y_iret C hw hS t7 h dX8_seen_80
set_option maxHeartbeats 4000000 in
set_option maxRecDepth 10000 in
theorem uX8_seen_0 {p : Program} {l : Launch} {e : Env} {s : State} {m : MethodId} {args : Array Value} {below : List Frame} {meth : Method} {c : Code} {G : GG} {SB : St} (C : Cx p s m args meth c G RX8 cX8_seen 4 (some .int)) {S : St} {H : Heap} {locs : List Loc} {ls : Array Slot}  {k : Int → St → Prop} (hw : Wd G ((injR SB) S) H) (hS : va_S (AG G) s.heap H locs) {xv1 : Int32} {x1 : Int} (xt1 : xv1.toInt = x1) {xv2 : Int32} {x2 : Int} (xt2 : xv2.toInt = x2) {xv3 : Int32} {x3 : Int} (xt3 : xv3.toInt = x3) (hl : lv_has ls 4 [(0, .ref (G.2.2 1042)), (1, .int xv1), (2, .int xv2), (3, .int xv3)])  (h : wX8_seen_0 S x1 x2 x3 k) : W p l e (rmF 3 68) s m args below meth c H locs 0 0 (MQ below (QcI G (injR SB) k) args s 0 0 (AG G)) (F0 m 0 ls []) := by
  refine lv_aload_n C.1.1 C.1.2.1 dX8_seen_0 rfl (lv_at hl 0 rfl) ?_
  refine lv_iload_n C.1.1 C.1.2.1 dX8_seen_1 rfl (lv_at hl 1 rfl) ?_
  refine y_cVI C (As := [.int xv1]) (rest := []) ml_X8_371 (kX8_isType l G SB S xt1 h) (ocr SB) (T := TX8) (N := 60) rfl (by decide) ⟨(Nat.le_of_ble_eq_true rfl), (Nat.le_of_ble_eq_true rfl)⟩ hl.1 rfl rfl (Nat.le_of_ble_eq_true rfl) hw hS dX8_seen_2 (fun v1 x_1 S_1 H locs t1 h hw hS => ?_)
  refine y_if_eq C t1 dX8_seen_5 (tgt := 16) (by decide) (fun c2 => ?_) (fun c2 => ?_)
  · have h := h.1 c2
    refine y_bipush C dX8_seen_16 ⟨by decide, by decide⟩ (fun v3 t3 => ?_)
    exact y_iret C hw hS t3 h dX8_seen_18
  · have h := h.2 c2
    refine lv_aload_n C.1.1 C.1.2.1 dX8_seen_8 rfl (lv_at hl 0 rfl) ?_
    refine lv_iload_n C.1.1 C.1.2.1 dX8_seen_9 rfl (lv_at hl 2 rfl) ?_
    refine y_cVI C (As := [.int xv2]) (rest := []) ml_X8_374 (kX8_isMember l G SB S_1 xt2 h) (ocr SB) (T := TX8) (N := 60) rfl (by decide) ⟨(Nat.le_of_ble_eq_true rfl), (Nat.le_of_ble_eq_true rfl)⟩ hl.1 rfl rfl (Nat.le_of_ble_eq_true rfl) hw hS dX8_seen_10 (fun v4 x_4 S_4 H locs t4 h hw hS => ?_)
    refine y_if_ne C t4 dX8_seen_13 (tgt := 19) (by decide) (fun c5 => ?_) (fun c5 => ?_)
    · have h := h.1 c5
      refine lv_iload_n C.1.1 C.1.2.1 dX8_seen_19 rfl (lv_at hl 3 rfl) ?_
      refine y_iconst C dX8_seen_20 ⟨by decide, by decide⟩ (fun v6 t6 => ?_)
      refine y_iconst C dX8_seen_21 ⟨by decide, by decide⟩ (fun v7 t7 => ?_)
      refine y_cSIp C (As := [.int xv3, .int v6, .int v7]) (rest := []) ms_X8_165 (kX8_in l G SB S_4 xt3 t6 t7 h) ⟨(Nat.le_of_ble_eq_true rfl), (Nat.le_of_ble_eq_true rfl)⟩ hl.1 rfl rfl (Nat.le_of_ble_eq_true rfl) hw hS dX8_seen_22 (fun v8 x_8 H locs t8 h hw hS => ?_)
      refine y_if_ne C t8 dX8_seen_25 (tgt := 31) (by decide) (fun c9 => ?_) (fun c9 => ?_)
      · have h := h.1 c9
        refine lv_iload_n C.1.1 C.1.2.1 dX8_seen_31 rfl (lv_at hl 3 rfl) ?_
        refine y_iconst C dX8_seen_32 ⟨by decide, by decide⟩ (fun v10 t10 => ?_)
        refine y_icmp_ge C xt3 t10 dX8_seen_33 (tgt := 50) (by decide) (fun c11 => ?_) (fun c11 => ?_)
        · have h := h.1 c11
          exact uX8_seen_50 C hw hS xt1 xt2 xt3 (lv_sub hl [0, 1, 2, 3] rfl)  h
        · have h := h.2 c11
          refine lv_iload_n C.1.1 C.1.2.1 dX8_seen_36 rfl (lv_at hl 3 rfl) ?_
          refine lv_aload_n C.1.1 C.1.2.1 dX8_seen_37 rfl (lv_at hl 0 rfl) ?_
          refine y_getA C fl_X8_134 hw (ocr SB) rfl (o := 32) rfl dX8_seen_38 ?_
          refine lv_aload_n C.1.1 C.1.2.1 dX8_seen_41 rfl (lv_at hl 0 rfl) ?_
          refine lv_iload_n C.1.1 C.1.2.1 dX8_seen_42 rfl (lv_at hl 2 rfl) ?_
          refine y_cVIp C (As := [.int xv2]) (rest := [.ref (G.2.2 (1074)), .int xv3]) ml_X8_218 (kX8_m l G SB S_4 xt2 h) (ocr SB) (T := TX8) (N := 60) rfl (by decide) ⟨(Nat.le_of_ble_eq_true rfl), (Nat.le_of_ble_eq_true rfl)⟩ hl.1 rfl rfl (Nat.le_of_ble_eq_true rfl) hw hS dX8_seen_43 (fun v13 x_13 H locs t13 h hw hS => ?_)
          obtain ⟨b14, h⟩ := h
          refine y_iald C hw (acr_41 SB) t13 b14 dX8_seen_46 (fun v14 t14 => ?_)
          refine y_icmp_ge C xt3 t14 dX8_seen_47 (tgt := 68) (by decide) (fun c15 => ?_) (fun c15 => ?_)
          · have h := h.1 c15
            refine y_bipush C dX8_seen_68 ⟨by decide, by decide⟩ (fun v16 t16 => ?_)
            refine lv_goto (tgt := 80) C.1.1 C.1.2.1 dX8_seen_70 (by decide) ?_
            exact y_iret C hw hS t16 h dX8_seen_80
          · have h := h.2 c15
            exact uX8_seen_50 C hw hS xt1 xt2 xt3 (lv_sub hl [0, 1, 2, 3] rfl)  h
      · have h := h.2 c9
        refine y_bipush C dX8_seen_28 ⟨by decide, by decide⟩ (fun v17 t17 => ?_)
        exact y_iret C hw hS t17 h dX8_seen_30
    · have h := h.2 c5
      refine y_bipush C dX8_seen_16 ⟨by decide, by decide⟩ (fun v18 t18 => ?_)
      exact y_iret C hw hS t18 h dX8_seen_18
theorem kX8_seen (l : Launch) (G : GG) (SB S : St) {xv1 : Int32} {x1 : Int} (xt1 : xv1.toInt = x1) {xv2 : Int32} {x2 : Int} (xt2 : xv2.toInt = x2) {xv3 : Int32} {x3 : Int} (xt3 : xv3.toInt = x3) {k : Int → St → Prop} (h : wX8_seen S x1 x2 x3 k) : CnI l yX8_seen cX8_seen 4 (some .int) 3 68 G (injR SB) [.ref (G.2.2 1042), .int xv1, .int xv2, .int xv3] S k :=
  cn_body (by decide +kernel) (Nat.le_of_ble_eq_true rfl) (fun p e s m args below meth c ls C hw hl => uX8_seen_0 C hw va_S.rf xt1 xt2 xt3 (lv_sub hl [0, 1, 2, 3] rfl) h)
set_option maxHeartbeats 4000000 in
set_option maxRecDepth 10000 in
theorem uX8_erased_47 {p : Program} {l : Launch} {e : Env} {s : State} {m : MethodId} {args : Array Value} {below : List Frame} {meth : Method} {c : Code} {G : GG} {SB : St} (C : Cx p s m args meth c G RX8 cX8_erased 3 (some .int)) {S : St} {H : Heap} {locs : List Loc} {ls : Array Slot}  {k : Int → St → Prop} (hw : Wd G ((injR SB) S) H) (hS : va_S (AG G) s.heap H locs) {xv1 : Int32} {x1 : Int} (xt1 : xv1.toInt = x1) {xv2 : Int32} {x2 : Int} (xt2 : xv2.toInt = x2) (hl : lv_has ls 3 [(0, .ref (G.2.2 1042)), (1, .int xv1), (2, .int xv2)])  (h : wX8_erased_47 S x1 x2 k) : W p l e (rmF 3 65) s m args below meth c H locs 0 0 (MQ below (QcI G (injR SB) k) args s 0 0 (AG G)) (F0 m 47 ls []) := by
  refine lv_aload_n C.1.1 C.1.2.1 dX8_erased_47 rfl (lv_at hl 0 rfl) ?_
  refine lv_iload_n C.1.1 C.1.2.1 dX8_erased_48 rfl (lv_at hl 1 rfl) ?_
  refine lv_iload_n C.1.1 C.1.2.1 dX8_erased_49 rfl (lv_at hl 2 rfl) ?_
  refine y_cVIp C (As := [.int xv1, .int xv2]) (rest := []) ml_X8_232 (kX8_kindErased l G SB S xt1 xt2 h) (ocr SB) (T := TX8) (N := 60) rfl (by decide) ⟨(Nat.le_of_ble_eq_true rfl), (Nat.le_of_ble_eq_true rfl)⟩ hl.1 rfl rfl (Nat.le_of_ble_eq_true rfl) hw hS dX8_erased_50 (fun v1 x_1 H locs t1 h hw hS => ?_)
  exact y_iret C hw hS t1 h dX8_erased_53
set_option maxHeartbeats 4000000 in
set_option maxRecDepth 10000 in
theorem uX8_erased_0 {p : Program} {l : Launch} {e : Env} {s : State} {m : MethodId} {args : Array Value} {below : List Frame} {meth : Method} {c : Code} {G : GG} {SB : St} (C : Cx p s m args meth c G RX8 cX8_erased 3 (some .int)) {S : St} {H : Heap} {locs : List Loc} {ls : Array Slot}  {k : Int → St → Prop} (hw : Wd G ((injR SB) S) H) (hS : va_S (AG G) s.heap H locs) {xv1 : Int32} {x1 : Int} (xt1 : xv1.toInt = x1) {xv2 : Int32} {x2 : Int} (xt2 : xv2.toInt = x2) (hl : lv_has ls 3 [(0, .ref (G.2.2 1042)), (1, .int xv1), (2, .int xv2)])  (h : wX8_erased_0 S x1 x2 k) : W p l e (rmF 3 65) s m args below meth c H locs 0 0 (MQ below (QcI G (injR SB) k) args s 0 0 (AG G)) (F0 m 0 ls []) := by
  refine lv_aload_n C.1.1 C.1.2.1 dX8_erased_0 rfl (lv_at hl 0 rfl) ?_
  refine lv_iload_n C.1.1 C.1.2.1 dX8_erased_1 rfl (lv_at hl 1 rfl) ?_
  refine y_cVI C (As := [.int xv1]) (rest := []) ml_X8_374 (kX8_isMember l G SB S xt1 h) (ocr SB) (T := TX8) (N := 60) rfl (by decide) ⟨(Nat.le_of_ble_eq_true rfl), (Nat.le_of_ble_eq_true rfl)⟩ hl.1 rfl rfl (Nat.le_of_ble_eq_true rfl) hw hS dX8_erased_2 (fun v1 x_1 S_1 H locs t1 h hw hS => ?_)
  refine y_if_ne C t1 dX8_erased_5 (tgt := 11) (by decide) (fun c2 => ?_) (fun c2 => ?_)
  · have h := h.1 c2
    refine lv_iload_n C.1.1 C.1.2.1 dX8_erased_11 rfl (lv_at hl 2 rfl) ?_
    refine y_iconst C dX8_erased_12 ⟨by decide, by decide⟩ (fun v3 t3 => ?_)
    refine y_iconst C dX8_erased_13 ⟨by decide, by decide⟩ (fun v4 t4 => ?_)
    refine y_cSIp C (As := [.int xv2, .int v3, .int v4]) (rest := []) ms_X8_165 (kX8_in l G SB S_1 xt2 t3 t4 h) ⟨(Nat.le_of_ble_eq_true rfl), (Nat.le_of_ble_eq_true rfl)⟩ hl.1 rfl rfl (Nat.le_of_ble_eq_true rfl) hw hS dX8_erased_14 (fun v5 x_5 H locs t5 h hw hS => ?_)
    refine y_if_ne C t5 dX8_erased_17 (tgt := 23) (by decide) (fun c6 => ?_) (fun c6 => ?_)
    · have h := h.1 c6
      refine lv_iload_n C.1.1 C.1.2.1 dX8_erased_23 rfl (lv_at hl 2 rfl) ?_
      refine y_iconst C dX8_erased_24 ⟨by decide, by decide⟩ (fun v7 t7 => ?_)
      refine y_icmp_ge C xt2 t7 dX8_erased_25 (tgt := 47) (by decide) (fun c8 => ?_) (fun c8 => ?_)
      · have h := h.1 c8
        exact uX8_erased_47 C hw hS xt1 xt2 (lv_sub hl [0, 1, 2] rfl)  h
      · have h := h.2 c8
        refine lv_iload_n C.1.1 C.1.2.1 dX8_erased_28 rfl (lv_at hl 2 rfl) ?_
        refine lv_aload_n C.1.1 C.1.2.1 dX8_erased_29 rfl (lv_at hl 0 rfl) ?_
        refine y_getA C fl_X8_134 hw (ocr SB) rfl (o := 32) rfl dX8_erased_30 ?_
        refine lv_aload_n C.1.1 C.1.2.1 dX8_erased_33 rfl (lv_at hl 0 rfl) ?_
        refine lv_iload_n C.1.1 C.1.2.1 dX8_erased_34 rfl (lv_at hl 1 rfl) ?_
        refine y_cVIp C (As := [.int xv1]) (rest := [.ref (G.2.2 (1074)), .int xv2]) ml_X8_218 (kX8_m l G SB S_1 xt1 h) (ocr SB) (T := TX8) (N := 60) rfl (by decide) ⟨(Nat.le_of_ble_eq_true rfl), (Nat.le_of_ble_eq_true rfl)⟩ hl.1 rfl rfl (Nat.le_of_ble_eq_true rfl) hw hS dX8_erased_35 (fun v10 x_10 H locs t10 h hw hS => ?_)
        obtain ⟨b11, h⟩ := h
        refine y_iald C hw (acr_41 SB) t10 b11 dX8_erased_38 (fun v11 t11 => ?_)
        refine y_icmp_lt C xt2 t11 dX8_erased_39 (tgt := 47) (by decide) (fun c12 => ?_) (fun c12 => ?_)
        · have h := h.1 c12
          exact uX8_erased_47 C hw hS xt1 xt2 (lv_sub hl [0, 1, 2] rfl)  h
        · have h := h.2 c12
          refine y_bipush C dX8_erased_42 ⟨by decide, by decide⟩ (fun v13 t13 => ?_)
          refine lv_goto (tgt := 53) C.1.1 C.1.2.1 dX8_erased_44 (by decide) ?_
          exact y_iret C hw hS t13 h dX8_erased_53
    · have h := h.2 c6
      refine y_bipush C dX8_erased_20 ⟨by decide, by decide⟩ (fun v14 t14 => ?_)
      exact y_iret C hw hS t14 h dX8_erased_22
  · have h := h.2 c2
    refine y_bipush C dX8_erased_8 ⟨by decide, by decide⟩ (fun v15 t15 => ?_)
    exact y_iret C hw hS t15 h dX8_erased_10
theorem kX8_erased (l : Launch) (G : GG) (SB S : St) {xv1 : Int32} {x1 : Int} (xt1 : xv1.toInt = x1) {xv2 : Int32} {x2 : Int} (xt2 : xv2.toInt = x2) {k : Int → St → Prop} (h : wX8_erased S x1 x2 k) : CnI l yX8_erased cX8_erased 3 (some .int) 3 65 G (injR SB) [.ref (G.2.2 1042), .int xv1, .int xv2] S k :=
  cn_body (by decide +kernel) (Nat.le_of_ble_eq_true rfl) (fun p e s m args below meth c ls C hw hl => uX8_erased_0 C hw va_S.rf xt1 xt2 (lv_sub hl [0, 1, 2] rfl) h)
set_option maxHeartbeats 4000000 in
set_option maxRecDepth 10000 in
theorem uX8_overrides_0 {p : Program} {l : Launch} {e : Env} {s : State} {m : MethodId} {args : Array Value} {below : List Frame} {meth : Method} {c : Code} {G : GG} {SB : St} (C : Cx p s m args meth c G RX8 cX8_overrides 3 (some .int)) {S : St} {H : Heap} {locs : List Loc} {ls : Array Slot}  {k : Int → St → Prop} (hw : Wd G ((injR SB) S) H) (hS : va_S (AG G) s.heap H locs) {xv1 : Int32} {x1 : Int} (xt1 : xv1.toInt = x1) {xv2 : Int32} {x2 : Int} (xt2 : xv2.toInt = x2) (hl : lv_has ls 3 [(0, .ref (G.2.2 1042)), (1, .int xv1), (2, .int xv2)])  (h : wX8_overrides_0 S x1 x2 k) : W p l e (rmF 2 43) s m args below meth c H locs 0 0 (MQ below (QcI G (injR SB) k) args s 0 0 (AG G)) (F0 m 0 ls []) := by
  refine lv_aload_n C.1.1 C.1.2.1 dX8_overrides_0 rfl (lv_at hl 0 rfl) ?_
  refine lv_iload_n C.1.1 C.1.2.1 dX8_overrides_1 rfl (lv_at hl 1 rfl) ?_
  refine y_cVI C (As := [.int xv1]) (rest := []) ml_X8_374 (kX8_isMember l G SB S xt1 h) (ocr SB) (T := TX8) (N := 60) rfl (by decide) ⟨(Nat.le_of_ble_eq_true rfl), (Nat.le_of_ble_eq_true rfl)⟩ hl.1 rfl rfl (Nat.le_of_ble_eq_true rfl) hw hS dX8_overrides_2 (fun v1 x_1 S_1 H locs t1 h hw hS => ?_)
  refine y_if_eq C t1 dX8_overrides_5 (tgt := 16) (by decide) (fun c2 => ?_) (fun c2 => ?_)
  · have h := h.1 c2
    refine y_bipush C dX8_overrides_16 ⟨by decide, by decide⟩ (fun v3 t3 => ?_)
    exact y_iret C hw hS t3 h dX8_overrides_18
  · have h := h.2 c2
    refine lv_aload_n C.1.1 C.1.2.1 dX8_overrides_8 rfl (lv_at hl 0 rfl) ?_
    refine lv_iload_n C.1.1 C.1.2.1 dX8_overrides_9 rfl (lv_at hl 2 rfl) ?_
    refine y_cVI C (As := [.int xv2]) (rest := []) ml_X8_374 (kX8_isMember l G SB S_1 xt2 h) (ocr SB) (T := TX8) (N := 60) rfl (by decide) ⟨(Nat.le_of_ble_eq_true rfl), (Nat.le_of_ble_eq_true rfl)⟩ hl.1 rfl rfl (Nat.le_of_ble_eq_true rfl) hw hS dX8_overrides_10 (fun v4 x_4 S_4 H locs t4 h hw hS => ?_)
    refine y_if_ne C t4 dX8_overrides_13 (tgt := 19) (by decide) (fun c5 => ?_) (fun c5 => ?_)
    · have h := h.1 c5
      refine lv_aload_n C.1.1 C.1.2.1 dX8_overrides_19 rfl (lv_at hl 0 rfl) ?_
      refine lv_iload_n C.1.1 C.1.2.1 dX8_overrides_20 rfl (lv_at hl 1 rfl) ?_
      refine lv_iload_n C.1.1 C.1.2.1 dX8_overrides_21 rfl (lv_at hl 2 rfl) ?_
      refine y_cVIp C (As := [.int xv1, .int xv2]) (rest := []) ml_X8_329 (kX8_isOver l G SB S_4 xt1 xt2 h) (ocr SB) (T := TX8) (N := 60) rfl (by decide) ⟨(Nat.le_of_ble_eq_true rfl), (Nat.le_of_ble_eq_true rfl)⟩ hl.1 rfl rfl (Nat.le_of_ble_eq_true rfl) hw hS dX8_overrides_22 (fun v6 x_6 H locs t6 h hw hS => ?_)
      refine y_if_eq C t6 dX8_overrides_25 (tgt := 32) (by decide) (fun c7 => ?_) (fun c7 => ?_)
      · have h := h.1 c7
        refine y_iconst C dX8_overrides_32 ⟨by decide, by decide⟩ (fun v8 t8 => ?_)
        exact y_iret C hw hS t8 h dX8_overrides_33
      · have h := h.2 c7
        refine y_iconst C dX8_overrides_28 ⟨by decide, by decide⟩ (fun v9 t9 => ?_)
        refine lv_goto (tgt := 33) C.1.1 C.1.2.1 dX8_overrides_29 (by decide) ?_
        exact y_iret C hw hS t9 h dX8_overrides_33
    · have h := h.2 c5
      refine y_bipush C dX8_overrides_16 ⟨by decide, by decide⟩ (fun v10 t10 => ?_)
      exact y_iret C hw hS t10 h dX8_overrides_18
theorem kX8_overrides (l : Launch) (G : GG) (SB S : St) {xv1 : Int32} {x1 : Int} (xt1 : xv1.toInt = x1) {xv2 : Int32} {x2 : Int} (xt2 : xv2.toInt = x2) {k : Int → St → Prop} (h : wX8_overrides S x1 x2 k) : CnI l yX8_overrides cX8_overrides 3 (some .int) 2 43 G (injR SB) [.ref (G.2.2 1042), .int xv1, .int xv2] S k :=
  cn_body (by decide +kernel) (Nat.le_of_ble_eq_true rfl) (fun p e s m args below meth c ls C hw hl => uX8_overrides_0 C hw va_S.rf xt1 xt2 (lv_sub hl [0, 1, 2] rfl) h)
set_option maxHeartbeats 4000000 in
set_option maxRecDepth 10000 in
theorem uX8_bridge_0 {p : Program} {l : Launch} {e : Env} {s : State} {m : MethodId} {args : Array Value} {below : List Frame} {meth : Method} {c : Code} {G : GG} {SB : St} (C : Cx p s m args meth c G RX8 cX8_bridge 6 (some .int)) {S : St} {H : Heap} {locs : List Loc} {ls : Array Slot}  {k : Int → St → Prop} (hw : Wd G ((injR SB) S) H) (hS : va_S (AG G) s.heap H locs) {xv1 : Int32} {x1 : Int} (xt1 : xv1.toInt = x1) {xv2 : Int32} {x2 : Int} (xt2 : xv2.toInt = x2) {xv3 : Int32} {x3 : Int} (xt3 : xv3.toInt = x3) (hl : lv_has ls 6 [(0, .ref (G.2.2 1042)), (1, .int xv1), (2, .int xv2), (3, .int xv3)])  (h : wX8_bridge_0 S x1 x2 x3 k) : W p l e (rmF 3 65) s m args below meth c H locs 0 0 (MQ below (QcI G (injR SB) k) args s 0 0 (AG G)) (F0 m 0 ls []) := by
  refine lv_aload_n C.1.1 C.1.2.1 dX8_bridge_0 rfl (lv_at hl 0 rfl) ?_
  refine lv_iload_n C.1.1 C.1.2.1 dX8_bridge_1 rfl (lv_at hl 1 rfl) ?_
  refine y_cVI C (As := [.int xv1]) (rest := []) ml_X8_371 (kX8_isType l G SB S xt1 h) (ocr SB) (T := TX8) (N := 60) rfl (by decide) ⟨(Nat.le_of_ble_eq_true rfl), (Nat.le_of_ble_eq_true rfl)⟩ hl.1 rfl rfl (Nat.le_of_ble_eq_true rfl) hw hS dX8_bridge_2 (fun v1 x_1 S_1 H locs t1 h hw hS => ?_)
  refine y_if_ne C t1 dX8_bridge_5 (tgt := 11) (by decide) (fun c2 => ?_) (fun c2 => ?_)
  · have h := h.1 c2
    refine lv_iload_n C.1.1 C.1.2.1 dX8_bridge_11 rfl (lv_at hl 3 rfl) ?_
    refine y_iconst C dX8_bridge_12 ⟨by decide, by decide⟩ (fun v3 t3 => ?_)
    refine y_iconst C dX8_bridge_13 ⟨by decide, by decide⟩ (fun v4 t4 => ?_)
    refine y_cSIp C (As := [.int xv3, .int v3, .int v4]) (rest := []) ms_X8_165 (kX8_in l G SB S_1 xt3 t3 t4 h) ⟨(Nat.le_of_ble_eq_true rfl), (Nat.le_of_ble_eq_true rfl)⟩ hl.1 rfl rfl (Nat.le_of_ble_eq_true rfl) hw hS dX8_bridge_14 (fun v5 x_5 H locs t5 h hw hS => ?_)
    refine y_if_ne C t5 dX8_bridge_17 (tgt := 23) (by decide) (fun c6 => ?_) (fun c6 => ?_)
    · have h := h.1 c6
      refine lv_iload_n C.1.1 C.1.2.1 dX8_bridge_23 rfl (lv_at hl 2 rfl) ?_
      refine y_iconst C dX8_bridge_24 ⟨by decide, by decide⟩ (fun v7 t7 => ?_)
      refine lv_aload_n C.1.1 C.1.2.1 dX8_bridge_25 rfl (lv_at hl 0 rfl) ?_
      refine y_getA C fl_X8_119 hw (ocr SB) rfl (o := 27) rfl dX8_bridge_26 ?_
      refine lv_aload_n C.1.1 C.1.2.1 dX8_bridge_29 rfl (lv_at hl 0 rfl) ?_
      refine lv_iload_n C.1.1 C.1.2.1 dX8_bridge_30 rfl (lv_at hl 1 rfl) ?_
      refine y_cVIp C (As := [.int xv1]) (rest := [.ref (G.2.2 (1069)), .int v7, .int xv2]) ml_X8_214 (kX8_t l G SB S_1 xt1 h) (ocr SB) (T := TX8) (N := 60) rfl (by decide) ⟨(Nat.le_of_ble_eq_true rfl), (Nat.le_of_ble_eq_true rfl)⟩ hl.1 rfl rfl (Nat.le_of_ble_eq_true rfl) hw hS dX8_bridge_31 (fun v9 x_9 H locs t9 h hw hS => ?_)
      obtain ⟨b10, h⟩ := h
      refine y_iald C hw (acr_36 SB) t9 b10 dX8_bridge_34 (fun v10 t10 => ?_)
      refine y_iconst C dX8_bridge_35 ⟨by decide, by decide⟩ (fun v11 t11 => ?_)
      refine y_isub C t10 t11 dX8_bridge_36 (fun v12 t12 => ?_)
      refine y_cSIp C (As := [.int xv2, .int v7, .int v12]) (rest := []) ms_X8_165 (kX8_in l G SB S_1 xt2 t7 t12 h) ⟨(Nat.le_of_ble_eq_true rfl), (Nat.le_of_ble_eq_true rfl)⟩ hl.1 rfl rfl (Nat.le_of_ble_eq_true rfl) hw hS dX8_bridge_37 (fun v13 x_13 H locs t13 h hw hS => ?_)
      refine y_if_ne C t13 dX8_bridge_40 (tgt := 46) (by decide) (fun c14 => ?_) (fun c14 => ?_)
      · have h := h.1 c14
        refine y_sipush C dX8_bridge_46 ⟨by decide, by decide⟩ (fun v15 t15 => ?_)
        refine lv_aload_n C.1.1 C.1.2.1 dX8_bridge_49 rfl (lv_at hl 0 rfl) ?_
        refine y_getI C fl_X8_208 hw (ocr SB) rfl dX8_bridge_50 (fun v16 t16 => ?_)
        refine y_imul C t15 t16 dX8_bridge_53 (fun v17 t17 => ?_)
        refine lv_aload_n C.1.1 C.1.2.1 dX8_bridge_54 rfl (lv_at hl 0 rfl) ?_
        refine y_getA C fl_X8_116 hw (ocr SB) rfl (o := 26) rfl dX8_bridge_55 ?_
        refine lv_aload_n C.1.1 C.1.2.1 dX8_bridge_58 rfl (lv_at hl 0 rfl) ?_
        refine lv_iload_n C.1.1 C.1.2.1 dX8_bridge_59 rfl (lv_at hl 1 rfl) ?_
        refine y_cVIp C (As := [.int xv1]) (rest := [.ref (G.2.2 (1068)), .int v17]) ml_X8_214 (kX8_t l G SB S_1 xt1 h) (ocr SB) (T := TX8) (N := 60) rfl (by decide) ⟨(Nat.le_of_ble_eq_true rfl), (Nat.le_of_ble_eq_true rfl)⟩ hl.1 rfl rfl (Nat.le_of_ble_eq_true rfl) hw hS dX8_bridge_60 (fun v19 x_19 H locs t19 h hw hS => ?_)
        obtain ⟨b20, h⟩ := h
        refine y_iald C hw (acr_35 SB) t19 b20 dX8_bridge_63 (fun v20 t20 => ?_)
        refine y_iadd C t17 t20 dX8_bridge_64 (fun v21 t21 => ?_)
        refine lv_iload_n C.1.1 C.1.2.1 dX8_bridge_65 rfl (lv_at hl 2 rfl) ?_
        refine y_iadd C t21 xt2 dX8_bridge_66 (fun v22 t22 => ?_)
        obtain ⟨x_23, e23⟩ : ∃ z : Int, z = w32 (w32 (w32 (7200 * (S_1 0 10)) + S_1 26 x_19) + x2) := ⟨_, rfl⟩
        have h := h x_23 e23
        have t23 := t22.trans e23.symm
        refine lv_istore (lv' := [(4, .int v22), (0, .ref (G.2.2 1042)), (1, .int xv1), (2, .int xv2), (3, .int xv3)]) C.1.1 C.1.2.1 dX8_bridge_67 hl (by decide) rfl (fun ls hl => ?_)
        refine lv_aload_n C.1.1 C.1.2.1 dX8_bridge_69 rfl (lv_at hl 1 rfl) ?_
        refine y_getA C fl_X8_146 hw (ocr SB) rfl (o := 36) rfl dX8_bridge_70 ?_
        refine lv_iload C.1.1 C.1.2.1 dX8_bridge_73 (lv_at hl 0 rfl) ?_
        obtain ⟨b25, h⟩ := h
        refine y_iald C hw (acr_45 SB) t23 b25 dX8_bridge_75 (fun v25 t25 => ?_)
        obtain ⟨x_26, e26⟩ : ∃ z : Int, z = S_1 36 x_23 := ⟨_, rfl⟩
        have h := h x_26 e26
        have t26 := t25.trans e26.symm
        refine lv_istore (lv' := [(5, .int v25), (4, .int v22), (0, .ref (G.2.2 1042)), (1, .int xv1), (2, .int xv2), (3, .int xv3)]) C.1.1 C.1.2.1 dX8_bridge_76 hl (by decide) rfl (fun ls hl => ?_)
        refine lv_iload_n C.1.1 C.1.2.1 dX8_bridge_78 rfl (lv_at hl 5 rfl) ?_
        refine y_iconst C dX8_bridge_79 ⟨by decide, by decide⟩ (fun v27 t27 => ?_)
        refine y_icmp_ge C xt3 t27 dX8_bridge_80 (tgt := 100) (by decide) (fun c28 => ?_) (fun c28 => ?_)
        · have h := h.1 c28
          refine lv_iload_n C.1.1 C.1.2.1 dX8_bridge_100 rfl (lv_at hl 5 rfl) ?_
          refine y_iconst C dX8_bridge_101 ⟨by decide, by decide⟩ (fun v29 t29 => ?_)
          refine y_icmp_ne C xt3 t29 dX8_bridge_102 (tgt := 115) (by decide) (fun c30 => ?_) (fun c30 => ?_)
          · have h := h.1 c30
            refine lv_iload_n C.1.1 C.1.2.1 dX8_bridge_115 rfl (lv_at hl 5 rfl) ?_
            refine y_iconst C dX8_bridge_116 ⟨by decide, by decide⟩ (fun v31 t31 => ?_)
            refine y_isub C xt3 t31 dX8_bridge_117 (fun v32 t32 => ?_)
            refine lv_aload_n C.1.1 C.1.2.1 dX8_bridge_118 rfl (lv_at hl 2 rfl) ?_
            refine y_getA C fl_X8_134 hw (ocr SB) rfl (o := 32) rfl dX8_bridge_119 ?_
            refine lv_aload_n C.1.1 C.1.2.1 dX8_bridge_122 rfl (lv_at hl 2 rfl) ?_
            refine lv_iload C.1.1 C.1.2.1 dX8_bridge_123 (lv_at hl 0 rfl) ?_
            refine y_cVIp C (As := [.int v25]) (rest := [.ref (G.2.2 (1074)), .int v32]) ml_X8_218 (kX8_m l G SB S_1 t26 h) (ocr SB) (T := TX8) (N := 60) rfl (by decide) ⟨(Nat.le_of_ble_eq_true rfl), (Nat.le_of_ble_eq_true rfl)⟩ hl.1 rfl rfl (Nat.le_of_ble_eq_true rfl) hw hS dX8_bridge_125 (fun v34 x_34 H locs t34 h hw hS => ?_)
            obtain ⟨b35, h⟩ := h
            refine y_iald C hw (acr_41 SB) t34 b35 dX8_bridge_128 (fun v35 t35 => ?_)
            refine y_icmp_ge C t32 t35 dX8_bridge_129 (tgt := 144) (by decide) (fun c36 => ?_) (fun c36 => ?_)
            · have h := h.1 c36
              refine y_bipush C dX8_bridge_144 ⟨by decide, by decide⟩ (fun v37 t37 => ?_)
              exact y_iret C hw hS t37 h dX8_bridge_146
            · have h := h.2 c36
              refine lv_aload_n C.1.1 C.1.2.1 dX8_bridge_132 rfl (lv_at hl 2 rfl) ?_
              refine lv_iload C.1.1 C.1.2.1 dX8_bridge_133 (lv_at hl 0 rfl) ?_
              refine lv_iload_n C.1.1 C.1.2.1 dX8_bridge_135 rfl (lv_at hl 5 rfl) ?_
              refine y_iconst C dX8_bridge_136 ⟨by decide, by decide⟩ (fun v38 t38 => ?_)
              refine y_isub C xt3 t38 dX8_bridge_137 (fun v39 t39 => ?_)
              refine y_cVIp C (As := [.int v25, .int v39]) (rest := []) ml_X8_232 (kX8_kindErased l G SB S_1 t26 t39 h) (ocr SB) (T := TX8) (N := 60) rfl (by decide) ⟨(Nat.le_of_ble_eq_true rfl), (Nat.le_of_ble_eq_true rfl)⟩ hl.1 rfl rfl (Nat.le_of_ble_eq_true rfl) hw hS dX8_bridge_138 (fun v40 x_40 H locs t40 h hw hS => ?_)
              refine lv_goto (tgt := 146) C.1.1 C.1.2.1 dX8_bridge_141 (by decide) ?_
              exact y_iret C hw hS t40 h dX8_bridge_146
          · have h := h.2 c30
            refine lv_aload_n C.1.1 C.1.2.1 dX8_bridge_105 rfl (lv_at hl 2 rfl) ?_
            refine lv_iload C.1.1 C.1.2.1 dX8_bridge_106 (lv_at hl 0 rfl) ?_
            refine y_iconst C dX8_bridge_108 ⟨by decide, by decide⟩ (fun v41 t41 => ?_)
            refine y_cVIp C (As := [.int v25, .int v41]) (rest := []) ml_X8_232 (kX8_kindErased l G SB S_1 t26 t41 h) (ocr SB) (T := TX8) (N := 60) rfl (by decide) ⟨(Nat.le_of_ble_eq_true rfl), (Nat.le_of_ble_eq_true rfl)⟩ hl.1 rfl rfl (Nat.le_of_ble_eq_true rfl) hw hS dX8_bridge_109 (fun v42 x_42 H locs t42 h hw hS => ?_)
            refine lv_goto (tgt := 146) C.1.1 C.1.2.1 dX8_bridge_112 (by decide) ?_
            exact y_iret C hw hS t42 h dX8_bridge_146
        · have h := h.2 c28
          refine lv_iload_n C.1.1 C.1.2.1 dX8_bridge_83 rfl (lv_at hl 5 rfl) ?_
          refine y_if_ne C xt3 dX8_bridge_84 (tgt := 97) (by decide) (fun c43 => ?_) (fun c43 => ?_)
          · have h := h.1 c43
            refine lv_iload C.1.1 C.1.2.1 dX8_bridge_97 (lv_at hl 0 rfl) ?_
            exact y_iret C hw hS t26 h dX8_bridge_99
          · have h := h.2 c43
            refine lv_aload_n C.1.1 C.1.2.1 dX8_bridge_87 rfl (lv_at hl 2 rfl) ?_
            refine y_getA C fl_X8_143 hw (ocr SB) rfl (o := 35) rfl dX8_bridge_88 ?_
            refine lv_iload C.1.1 C.1.2.1 dX8_bridge_91 (lv_at hl 1 rfl) ?_
            obtain ⟨b45, h⟩ := h
            refine y_iald C hw (acr_44 SB) t23 b45 dX8_bridge_93 (fun v45 t45 => ?_)
            refine lv_goto (tgt := 99) C.1.1 C.1.2.1 dX8_bridge_94 (by decide) ?_
            exact y_iret C hw hS t45 h dX8_bridge_99
      · have h := h.2 c14
        refine y_bipush C dX8_bridge_43 ⟨by decide, by decide⟩ (fun v46 t46 => ?_)
        exact y_iret C hw hS t46 h dX8_bridge_45
    · have h := h.2 c6
      refine y_bipush C dX8_bridge_20 ⟨by decide, by decide⟩ (fun v47 t47 => ?_)
      exact y_iret C hw hS t47 h dX8_bridge_22
  · have h := h.2 c2
    refine y_bipush C dX8_bridge_8 ⟨by decide, by decide⟩ (fun v48 t48 => ?_)
    exact y_iret C hw hS t48 h dX8_bridge_10
theorem kX8_bridge (l : Launch) (G : GG) (SB S : St) {xv1 : Int32} {x1 : Int} (xt1 : xv1.toInt = x1) {xv2 : Int32} {x2 : Int} (xt2 : xv2.toInt = x2) {xv3 : Int32} {x3 : Int} (xt3 : xv3.toInt = x3) {k : Int → St → Prop} (h : wX8_bridge S x1 x2 x3 k) : CnI l yX8_bridge cX8_bridge 6 (some .int) 3 65 G (injR SB) [.ref (G.2.2 1042), .int xv1, .int xv2, .int xv3] S k :=
  cn_body (by decide +kernel) (Nat.le_of_ble_eq_true rfl) (fun p e s m args below meth c ls C hw hl => uX8_bridge_0 C hw va_S.rf xt1 xt2 xt3 (lv_sub hl [0, 1, 2, 3] rfl) h)
set_option maxHeartbeats 4000000 in
set_option maxRecDepth 10000 in
theorem uX8_same_0 {p : Program} {l : Launch} {e : Env} {s : State} {m : MethodId} {args : Array Value} {below : List Frame} {meth : Method} {c : Code} {G : GG} {SB : St} (C : Cx p s m args meth c G RX8 cX8_same 4 (some .int)) {S : St} {H : Heap} {locs : List Loc} {ls : Array Slot}  {k : Int → St → Prop} (hw : Wd G ((injR SB) S) H) (hS : va_S (AG G) s.heap H locs) {xv1 : Int32} {x1 : Int} (xt1 : xv1.toInt = x1) {xv2 : Int32} {x2 : Int} (xt2 : xv2.toInt = x2) {xv3 : Int32} {x3 : Int} (xt3 : xv3.toInt = x3) (hl : lv_has ls 4 [(0, .ref (G.2.2 1042)), (1, .int xv1), (2, .int xv2), (3, .int xv3)])  (h : wX8_same_0 S x1 x2 x3 k) : W p l e (rmF 2 43) s m args below meth c H locs 0 0 (MQ below (QcI G (injR SB) k) args s 0 0 (AG G)) (F0 m 0 ls []) := by
  refine lv_aload_n C.1.1 C.1.2.1 dX8_same_0 rfl (lv_at hl 0 rfl) ?_
  refine lv_iload_n C.1.1 C.1.2.1 dX8_same_1 rfl (lv_at hl 1 rfl) ?_
  refine y_cVI C (As := [.int xv1]) (rest := []) ml_X8_371 (kX8_isType l G SB S xt1 h) (ocr SB) (T := TX8) (N := 60) rfl (by decide) ⟨(Nat.le_of_ble_eq_true rfl), (Nat.le_of_ble_eq_true rfl)⟩ hl.1 rfl rfl (Nat.le_of_ble_eq_true rfl) hw hS dX8_same_2 (fun v1 x_1 S_1 H locs t1 h hw hS => ?_)
  refine y_if_eq C t1 dX8_same_5 (tgt := 16) (by decide) (fun c2 => ?_) (fun c2 => ?_)
  · have h := h.1 c2
    refine y_bipush C dX8_same_16 ⟨by decide, by decide⟩ (fun v3 t3 => ?_)
    exact y_iret C hw hS t3 h dX8_same_18
  · have h := h.2 c2
    refine lv_aload_n C.1.1 C.1.2.1 dX8_same_8 rfl (lv_at hl 0 rfl) ?_
    refine lv_iload_n C.1.1 C.1.2.1 dX8_same_9 rfl (lv_at hl 2 rfl) ?_
    refine y_cVI C (As := [.int xv2]) (rest := []) ml_X8_371 (kX8_isType l G SB S_1 xt2 h) (ocr SB) (T := TX8) (N := 60) rfl (by decide) ⟨(Nat.le_of_ble_eq_true rfl), (Nat.le_of_ble_eq_true rfl)⟩ hl.1 rfl rfl (Nat.le_of_ble_eq_true rfl) hw hS dX8_same_10 (fun v4 x_4 S_4 H locs t4 h hw hS => ?_)
    refine y_if_ne C t4 dX8_same_13 (tgt := 19) (by decide) (fun c5 => ?_) (fun c5 => ?_)
    · have h := h.1 c5
      refine lv_iload_n C.1.1 C.1.2.1 dX8_same_19 rfl (lv_at hl 3 rfl) ?_
      refine y_if_eq C xt3 dX8_same_20 (tgt := 49) (by decide) (fun c6 => ?_) (fun c6 => ?_)
      · have h := h.1 c6
        refine lv_aload_n C.1.1 C.1.2.1 dX8_same_49 rfl (lv_at hl 0 rfl) ?_
        refine lv_iload_n C.1.1 C.1.2.1 dX8_same_50 rfl (lv_at hl 1 rfl) ?_
        refine lv_iload_n C.1.1 C.1.2.1 dX8_same_51 rfl (lv_at hl 2 rfl) ?_
        refine y_cVIp C (As := [.int xv1, .int xv2]) (rest := []) ml_X8_258 (kX8_isSamePackage l G SB S_4 xt1 xt2 h) (ocr SB) (T := TX8) (N := 60) rfl (by decide) ⟨(Nat.le_of_ble_eq_true rfl), (Nat.le_of_ble_eq_true rfl)⟩ hl.1 rfl rfl (Nat.le_of_ble_eq_true rfl) hw hS dX8_same_52 (fun v7 x_7 H locs t7 h hw hS => ?_)
        refine y_if_eq C t7 dX8_same_55 (tgt := 62) (by decide) (fun c8 => ?_) (fun c8 => ?_)
        · have h := h.1 c8
          refine y_iconst C dX8_same_62 ⟨by decide, by decide⟩ (fun v9 t9 => ?_)
          exact y_iret C hw hS t9 h dX8_same_63
        · have h := h.2 c8
          refine y_iconst C dX8_same_58 ⟨by decide, by decide⟩ (fun v10 t10 => ?_)
          refine lv_goto (tgt := 63) C.1.1 C.1.2.1 dX8_same_59 (by decide) ?_
          exact y_iret C hw hS t10 h dX8_same_63
      · have h := h.2 c6
        refine lv_aload_n C.1.1 C.1.2.1 dX8_same_23 rfl (lv_at hl 0 rfl) ?_
        refine y_getA C fl_X8_73 hw (ocr SB) rfl (o := 12) rfl dX8_same_24 ?_
        refine lv_aload_n C.1.1 C.1.2.1 dX8_same_27 rfl (lv_at hl 0 rfl) ?_
        refine lv_iload_n C.1.1 C.1.2.1 dX8_same_28 rfl (lv_at hl 1 rfl) ?_
        refine y_cVIp C (As := [.int xv1]) (rest := [.ref (G.2.2 (1054))]) ml_X8_214 (kX8_t l G SB S_4 xt1 h) (ocr SB) (T := TX8) (N := 60) rfl (by decide) ⟨(Nat.le_of_ble_eq_true rfl), (Nat.le_of_ble_eq_true rfl)⟩ hl.1 rfl rfl (Nat.le_of_ble_eq_true rfl) hw hS dX8_same_29 (fun v12 x_12 H locs t12 h hw hS => ?_)
        obtain ⟨b13, h⟩ := h
        refine y_iald C hw (acr_21 SB) t12 b13 dX8_same_32 (fun v13 t13 => ?_)
        refine lv_aload_n C.1.1 C.1.2.1 dX8_same_33 rfl (lv_at hl 0 rfl) ?_
        refine y_getA C fl_X8_73 hw (ocr SB) rfl (o := 12) rfl dX8_same_34 ?_
        refine lv_aload_n C.1.1 C.1.2.1 dX8_same_37 rfl (lv_at hl 0 rfl) ?_
        refine lv_iload_n C.1.1 C.1.2.1 dX8_same_38 rfl (lv_at hl 2 rfl) ?_
        refine y_cVIp C (As := [.int xv2]) (rest := [.ref (G.2.2 (1054)), .int v13]) ml_X8_214 (kX8_t l G SB S_4 xt2 h) (ocr SB) (T := TX8) (N := 60) rfl (by decide) ⟨(Nat.le_of_ble_eq_true rfl), (Nat.le_of_ble_eq_true rfl)⟩ hl.1 rfl rfl (Nat.le_of_ble_eq_true rfl) hw hS dX8_same_39 (fun v15 x_15 H locs t15 h hw hS => ?_)
        obtain ⟨b16, h⟩ := h
        refine y_iald C hw (acr_21 SB) t15 b16 dX8_same_42 (fun v16 t16 => ?_)
        refine y_icmp_ne C t13 t16 dX8_same_43 (tgt := 62) (by decide) (fun c17 => ?_) (fun c17 => ?_)
        · have h := h.1 c17
          refine y_iconst C dX8_same_62 ⟨by decide, by decide⟩ (fun v18 t18 => ?_)
          exact y_iret C hw hS t18 h dX8_same_63
        · have h := h.2 c17
          refine lv_goto (tgt := 58) C.1.1 C.1.2.1 dX8_same_46 (by decide) ?_
          refine y_iconst C dX8_same_58 ⟨by decide, by decide⟩ (fun v19 t19 => ?_)
          refine lv_goto (tgt := 63) C.1.1 C.1.2.1 dX8_same_59 (by decide) ?_
          exact y_iret C hw hS t19 h dX8_same_63
    · have h := h.2 c5
      refine y_bipush C dX8_same_16 ⟨by decide, by decide⟩ (fun v20 t20 => ?_)
      exact y_iret C hw hS t20 h dX8_same_18
theorem kX8_same (l : Launch) (G : GG) (SB S : St) {xv1 : Int32} {x1 : Int} (xt1 : xv1.toInt = x1) {xv2 : Int32} {x2 : Int} (xt2 : xv2.toInt = x2) {xv3 : Int32} {x3 : Int} (xt3 : xv3.toInt = x3) {k : Int → St → Prop} (h : wX8_same S x1 x2 x3 k) : CnI l yX8_same cX8_same 4 (some .int) 2 43 G (injR SB) [.ref (G.2.2 1042), .int xv1, .int xv2, .int xv3] S k :=
  cn_body (by decide +kernel) (Nat.le_of_ble_eq_true rfl) (fun p e s m args below meth c ls C hw hl => uX8_same_0 C hw va_S.rf xt1 xt2 xt3 (lv_sub hl [0, 1, 2, 3] rfl) h)
set_option maxHeartbeats 4000000 in
set_option maxRecDepth 10000 in
theorem uX8_soughtBy_0 {p : Program} {l : Launch} {e : Env} {s : State} {m : MethodId} {args : Array Value} {below : List Frame} {meth : Method} {c : Code} {G : GG} {SB : St} (C : Cx p s m args meth c G RX8 cX8_soughtBy 2 (some .int)) {S : St} {H : Heap} {locs : List Loc} {ls : Array Slot}  {k : Int → Prop} (hw : Wd G ((injR SB) S) H) (hS : va_S (AG G) s.heap H locs) {xv1 : Int32} {x1 : Int} (xt1 : xv1.toInt = x1) (hl : lv_has ls 2 [(0, .ref (G.2.2 1042)), (1, .int xv1)])  (h : wX8_soughtBy_0 S x1 k) : W p l e (rmF 0 0) s m args below meth c H locs 0 0 (MQ below (QcI G (injR SB) (fun r u => k r ∧ u = S)) args s 0 0 (AG G)) (F0 m 0 ls []) := by
  refine lv_iload_n C.1.1 C.1.2.1 dX8_soughtBy_0 rfl (lv_at hl 1 rfl) ?_
  refine y_sipush C dX8_soughtBy_1 ⟨by decide, by decide⟩ (fun v1 t1 => ?_)
  refine y_icmp_ge C xt1 t1 dX8_soughtBy_4 (tgt := 11) (by decide) (fun c2 => ?_) (fun c2 => ?_)
  · have h := h.1 c2
    refine lv_aload_n C.1.1 C.1.2.1 dX8_soughtBy_11 rfl (lv_at hl 0 rfl) ?_
    refine y_getA C fl_X8_146 hw (ocr SB) rfl (o := 36) rfl dX8_soughtBy_12 ?_
    refine y_sipush C dX8_soughtBy_15 ⟨by decide, by decide⟩ (fun v4 t4 => ?_)
    refine lv_aload_n C.1.1 C.1.2.1 dX8_soughtBy_18 rfl (lv_at hl 0 rfl) ?_
    refine y_getI C fl_X8_208 hw (ocr SB) rfl dX8_soughtBy_19 (fun v5 t5 => ?_)
    refine y_imul C t4 t5 dX8_soughtBy_22 (fun v6 t6 => ?_)
    refine lv_iload_n C.1.1 C.1.2.1 dX8_soughtBy_23 rfl (lv_at hl 1 rfl) ?_
    refine y_iadd C t6 xt1 dX8_soughtBy_24 (fun v7 t7 => ?_)
    refine y_sipush C dX8_soughtBy_25 ⟨by decide, by decide⟩ (fun v8 t8 => ?_)
    refine y_isub C t7 t8 dX8_soughtBy_28 (fun v9 t9 => ?_)
    obtain ⟨b10, h⟩ := h
    refine y_iald C hw (acr_45 SB) t9 b10 dX8_soughtBy_29 (fun v10 t10 => ?_)
    exact y_iret C hw hS t10 ⟨h, rfl⟩ dX8_soughtBy_30
  · have h := h.2 c2
    refine lv_iload_n C.1.1 C.1.2.1 dX8_soughtBy_7 rfl (lv_at hl 1 rfl) ?_
    refine lv_goto (tgt := 30) C.1.1 C.1.2.1 dX8_soughtBy_8 (by decide) ?_
    exact y_iret C hw hS xt1 ⟨h, rfl⟩ dX8_soughtBy_30
theorem kX8_soughtBy (l : Launch) (G : GG) (SB S : St) {xv1 : Int32} {x1 : Int} (xt1 : xv1.toInt = x1) {k : Int → Prop} (h : wX8_soughtBy S x1 k) : CnI l yX8_soughtBy cX8_soughtBy 2 (some .int) 0 0 G (injR SB) [.ref (G.2.2 1042), .int xv1] S (fun r u => k r ∧ u = S) :=
  cn_body (by decide +kernel) (Nat.le_of_ble_eq_true rfl) (fun p e s m args below meth c ls C hw hl => uX8_soughtBy_0 C hw va_S.rf xt1 (lv_sub hl [0, 1] rfl) h)
set_option maxHeartbeats 4000000 in
set_option maxRecDepth 10000 in
theorem uX8_memberOf_0 {p : Program} {l : Launch} {e : Env} {s : State} {m : MethodId} {args : Array Value} {below : List Frame} {meth : Method} {c : Code} {G : GG} {SB : St} (C : Cx p s m args meth c G RX8 cX8_memberOf 2 (some .int)) {S : St} {H : Heap} {locs : List Loc} {ls : Array Slot}  {k : Int → Prop} (hw : Wd G ((injR SB) S) H) (hS : va_S (AG G) s.heap H locs) {xv1 : Int32} {x1 : Int} (xt1 : xv1.toInt = x1) (hl : lv_has ls 2 [(0, .ref (G.2.2 1042)), (1, .int xv1)])  (h : wX8_memberOf_0 S x1 k) : W p l e (rmF 0 0) s m args below meth c H locs 0 0 (MQ below (QcI G (injR SB) (fun r u => k r ∧ u = S)) args s 0 0 (AG G)) (F0 m 0 ls []) := by
  refine lv_iload_n C.1.1 C.1.2.1 dX8_memberOf_0 rfl (lv_at hl 1 rfl) ?_
  refine y_sipush C dX8_memberOf_1 ⟨by decide, by decide⟩ (fun v1 t1 => ?_)
  refine y_icmp_ge C xt1 t1 dX8_memberOf_4 (tgt := 11) (by decide) (fun c2 => ?_) (fun c2 => ?_)
  · have h := h.1 c2
    refine lv_aload_n C.1.1 C.1.2.1 dX8_memberOf_11 rfl (lv_at hl 0 rfl) ?_
    refine y_getA C fl_X8_143 hw (ocr SB) rfl (o := 35) rfl dX8_memberOf_12 ?_
    refine y_sipush C dX8_memberOf_15 ⟨by decide, by decide⟩ (fun v4 t4 => ?_)
    refine lv_aload_n C.1.1 C.1.2.1 dX8_memberOf_18 rfl (lv_at hl 0 rfl) ?_
    refine y_getI C fl_X8_208 hw (ocr SB) rfl dX8_memberOf_19 (fun v5 t5 => ?_)
    refine y_imul C t4 t5 dX8_memberOf_22 (fun v6 t6 => ?_)
    refine lv_iload_n C.1.1 C.1.2.1 dX8_memberOf_23 rfl (lv_at hl 1 rfl) ?_
    refine y_iadd C t6 xt1 dX8_memberOf_24 (fun v7 t7 => ?_)
    refine y_sipush C dX8_memberOf_25 ⟨by decide, by decide⟩ (fun v8 t8 => ?_)
    refine y_isub C t7 t8 dX8_memberOf_28 (fun v9 t9 => ?_)
    obtain ⟨b10, h⟩ := h
    refine y_iald C hw (acr_44 SB) t9 b10 dX8_memberOf_29 (fun v10 t10 => ?_)
    exact y_iret C hw hS t10 ⟨h, rfl⟩ dX8_memberOf_30
  · have h := h.2 c2
    refine lv_iload_n C.1.1 C.1.2.1 dX8_memberOf_7 rfl (lv_at hl 1 rfl) ?_
    refine lv_goto (tgt := 30) C.1.1 C.1.2.1 dX8_memberOf_8 (by decide) ?_
    exact y_iret C hw hS xt1 ⟨h, rfl⟩ dX8_memberOf_30
theorem kX8_memberOf (l : Launch) (G : GG) (SB S : St) {xv1 : Int32} {x1 : Int} (xt1 : xv1.toInt = x1) {k : Int → Prop} (h : wX8_memberOf S x1 k) : CnI l yX8_memberOf cX8_memberOf 2 (some .int) 0 0 G (injR SB) [.ref (G.2.2 1042), .int xv1] S (fun r u => k r ∧ u = S) :=
  cn_body (by decide +kernel) (Nat.le_of_ble_eq_true rfl) (fun p e s m args below meth c ls C hw hl => uX8_memberOf_0 C hw va_S.rf xt1 (lv_sub hl [0, 1] rfl) h)
set_option maxHeartbeats 4000000 in
set_option maxRecDepth 10000 in
theorem uX8_shapeOf_0 {p : Program} {l : Launch} {e : Env} {s : State} {m : MethodId} {args : Array Value} {below : List Frame} {meth : Method} {c : Code} {G : GG} {SB : St} (C : Cx p s m args meth c G RX8 cX8_shapeOf 2 (some .int)) {S : St} {H : Heap} {locs : List Loc} {ls : Array Slot}  {k : Int → Prop} (hw : Wd G ((injR SB) S) H) (hS : va_S (AG G) s.heap H locs) {xv1 : Int32} {x1 : Int} (xt1 : xv1.toInt = x1) (hl : lv_has ls 2 [(0, .ref (G.2.2 1042)), (1, .int xv1)])  (h : wX8_shapeOf_0 S x1 k) : W p l e (rmF 1 21) s m args below meth c H locs 0 0 (MQ below (QcI G (injR SB) (fun r u => k r ∧ u = S)) args s 0 0 (AG G)) (F0 m 0 ls []) := by
  refine lv_iload_n C.1.1 C.1.2.1 dX8_shapeOf_0 rfl (lv_at hl 1 rfl) ?_
  refine y_sipush C dX8_shapeOf_1 ⟨by decide, by decide⟩ (fun v1 t1 => ?_)
  refine y_icmp_ge C xt1 t1 dX8_shapeOf_4 (tgt := 20) (by decide) (fun c2 => ?_) (fun c2 => ?_)
  · have h := h.1 c2
    refine y_iconst C dX8_shapeOf_20 ⟨by decide, by decide⟩ (fun v3 t3 => ?_)
    exact y_iret C hw hS t3 ⟨h, rfl⟩ dX8_shapeOf_21
  · have h := h.2 c2
    refine lv_aload_n C.1.1 C.1.2.1 dX8_shapeOf_7 rfl (lv_at hl 0 rfl) ?_
    refine y_getA C fl_X8_131 hw (ocr SB) rfl (o := 31) rfl dX8_shapeOf_8 ?_
    refine lv_aload_n C.1.1 C.1.2.1 dX8_shapeOf_11 rfl (lv_at hl 0 rfl) ?_
    refine lv_iload_n C.1.1 C.1.2.1 dX8_shapeOf_12 rfl (lv_at hl 1 rfl) ?_
    refine y_cVIp C (As := [.int xv1]) (rest := [.ref (G.2.2 (1073))]) ml_X8_218 (kX8_m l G SB S xt1 h) (ocr SB) (T := TX8) (N := 60) rfl (by decide) ⟨(Nat.le_of_ble_eq_true rfl), (Nat.le_of_ble_eq_true rfl)⟩ hl.1 rfl rfl (Nat.le_of_ble_eq_true rfl) hw hS dX8_shapeOf_13 (fun v5 x_5 H locs t5 h hw hS => ?_)
    obtain ⟨b6, h⟩ := h
    refine y_iald C hw (acr_40 SB) t5 b6 dX8_shapeOf_16 (fun v6 t6 => ?_)
    refine lv_goto (tgt := 21) C.1.1 C.1.2.1 dX8_shapeOf_17 (by decide) ?_
    exact y_iret C hw hS t6 ⟨h, rfl⟩ dX8_shapeOf_21
theorem kX8_shapeOf (l : Launch) (G : GG) (SB S : St) {xv1 : Int32} {x1 : Int} (xt1 : xv1.toInt = x1) {k : Int → Prop} (h : wX8_shapeOf S x1 k) : CnI l yX8_shapeOf cX8_shapeOf 2 (some .int) 1 21 G (injR SB) [.ref (G.2.2 1042), .int xv1] S (fun r u => k r ∧ u = S) :=
  cn_body (by decide +kernel) (Nat.le_of_ble_eq_true rfl) (fun p e s m args below meth c ls C hw hl => uX8_shapeOf_0 C hw va_S.rf xt1 (lv_sub hl [0, 1] rfl) h)
set_option maxHeartbeats 4000000 in
set_option maxRecDepth 10000 in
theorem uX8_accessOf_0 {p : Program} {l : Launch} {e : Env} {s : State} {m : MethodId} {args : Array Value} {below : List Frame} {meth : Method} {c : Code} {G : GG} {SB : St} (C : Cx p s m args meth c G RX8 cX8_accessOf 2 (some .int)) {S : St} {H : Heap} {locs : List Loc} {ls : Array Slot}  {k : Int → Prop} (hw : Wd G ((injR SB) S) H) (hS : va_S (AG G) s.heap H locs) {xv1 : Int32} {x1 : Int} (xt1 : xv1.toInt = x1) (hl : lv_has ls 2 [(0, .ref (G.2.2 1042)), (1, .int xv1)])  (h : wX8_accessOf_0 S x1 k) : W p l e (rmF 1 21) s m args below meth c H locs 0 0 (MQ below (QcI G (injR SB) (fun r u => k r ∧ u = S)) args s 0 0 (AG G)) (F0 m 0 ls []) := by
  refine lv_aload_n C.1.1 C.1.2.1 dX8_accessOf_0 rfl (lv_at hl 0 rfl) ?_
  refine y_getA C fl_X8_128 hw (ocr SB) rfl (o := 30) rfl dX8_accessOf_1 ?_
  refine lv_aload_n C.1.1 C.1.2.1 dX8_accessOf_4 rfl (lv_at hl 0 rfl) ?_
  refine lv_aload_n C.1.1 C.1.2.1 dX8_accessOf_5 rfl (lv_at hl 0 rfl) ?_
  refine lv_iload_n C.1.1 C.1.2.1 dX8_accessOf_6 rfl (lv_at hl 1 rfl) ?_
  refine y_cVIp C (As := [.int xv1]) (rest := [.ref (G.2.2 1042), .ref (G.2.2 (1072))]) ml_X8_377 (kX8_memberOf l G SB S xt1 h) (ocr SB) (T := TX8) (N := 60) rfl (by decide) ⟨(Nat.le_of_ble_eq_true rfl), (Nat.le_of_ble_eq_true rfl)⟩ hl.1 rfl rfl (Nat.le_of_ble_eq_true rfl) hw hS dX8_accessOf_7 (fun v2 x_2 H locs t2 h hw hS => ?_)
  refine y_cVIp C (As := [.int v2]) (rest := [.ref (G.2.2 (1072))]) ml_X8_218 (kX8_m l G SB S t2 h) (ocr SB) (T := TX8) (N := 60) rfl (by decide) ⟨(Nat.le_of_ble_eq_true rfl), (Nat.le_of_ble_eq_true rfl)⟩ hl.1 rfl rfl (Nat.le_of_ble_eq_true rfl) hw hS dX8_accessOf_10 (fun v3 x_3 H locs t3 h hw hS => ?_)
  obtain ⟨b4, h⟩ := h
  refine y_iald C hw (acr_39 SB) t3 b4 dX8_accessOf_13 (fun v4 t4 => ?_)
  exact y_iret C hw hS t4 ⟨h, rfl⟩ dX8_accessOf_14
theorem kX8_accessOf (l : Launch) (G : GG) (SB S : St) {xv1 : Int32} {x1 : Int} (xt1 : xv1.toInt = x1) {k : Int → Prop} (h : wX8_accessOf S x1 k) : CnI l yX8_accessOf cX8_accessOf 2 (some .int) 1 21 G (injR SB) [.ref (G.2.2 1042), .int xv1] S (fun r u => k r ∧ u = S) :=
  cn_body (by decide +kernel) (Nat.le_of_ble_eq_true rfl) (fun p e s m args below meth c ls C hw hl => uX8_accessOf_0 C hw va_S.rf xt1 (lv_sub hl [0, 1] rfl) h)
set_option maxHeartbeats 4000000 in
set_option maxRecDepth 10000 in
theorem uX8_ownerOf_0 {p : Program} {l : Launch} {e : Env} {s : State} {m : MethodId} {args : Array Value} {below : List Frame} {meth : Method} {c : Code} {G : GG} {SB : St} (C : Cx p s m args meth c G RX8 cX8_ownerOf 2 (some .int)) {S : St} {H : Heap} {locs : List Loc} {ls : Array Slot}  {k : Int → Prop} (hw : Wd G ((injR SB) S) H) (hS : va_S (AG G) s.heap H locs) {xv1 : Int32} {x1 : Int} (xt1 : xv1.toInt = x1) (hl : lv_has ls 2 [(0, .ref (G.2.2 1042)), (1, .int xv1)])  (h : wX8_ownerOf_0 S x1 k) : W p l e (rmF 1 21) s m args below meth c H locs 0 0 (MQ below (QcI G (injR SB) (fun r u => k r ∧ u = S)) args s 0 0 (AG G)) (F0 m 0 ls []) := by
  refine lv_aload_n C.1.1 C.1.2.1 dX8_ownerOf_0 rfl (lv_at hl 0 rfl) ?_
  refine y_getA C fl_X8_122 hw (ocr SB) rfl (o := 28) rfl dX8_ownerOf_1 ?_
  refine lv_aload_n C.1.1 C.1.2.1 dX8_ownerOf_4 rfl (lv_at hl 0 rfl) ?_
  refine lv_aload_n C.1.1 C.1.2.1 dX8_ownerOf_5 rfl (lv_at hl 0 rfl) ?_
  refine lv_iload_n C.1.1 C.1.2.1 dX8_ownerOf_6 rfl (lv_at hl 1 rfl) ?_
  refine y_cVIp C (As := [.int xv1]) (rest := [.ref (G.2.2 1042), .ref (G.2.2 (1070))]) ml_X8_377 (kX8_memberOf l G SB S xt1 h) (ocr SB) (T := TX8) (N := 60) rfl (by decide) ⟨(Nat.le_of_ble_eq_true rfl), (Nat.le_of_ble_eq_true rfl)⟩ hl.1 rfl rfl (Nat.le_of_ble_eq_true rfl) hw hS dX8_ownerOf_7 (fun v2 x_2 H locs t2 h hw hS => ?_)
  refine y_cVIp C (As := [.int v2]) (rest := [.ref (G.2.2 (1070))]) ml_X8_218 (kX8_m l G SB S t2 h) (ocr SB) (T := TX8) (N := 60) rfl (by decide) ⟨(Nat.le_of_ble_eq_true rfl), (Nat.le_of_ble_eq_true rfl)⟩ hl.1 rfl rfl (Nat.le_of_ble_eq_true rfl) hw hS dX8_ownerOf_10 (fun v3 x_3 H locs t3 h hw hS => ?_)
  obtain ⟨b4, h⟩ := h
  refine y_iald C hw (acr_37 SB) t3 b4 dX8_ownerOf_13 (fun v4 t4 => ?_)
  exact y_iret C hw hS t4 ⟨h, rfl⟩ dX8_ownerOf_14
theorem kX8_ownerOf (l : Launch) (G : GG) (SB S : St) {xv1 : Int32} {x1 : Int} (xt1 : xv1.toInt = x1) {k : Int → Prop} (h : wX8_ownerOf S x1 k) : CnI l yX8_ownerOf cX8_ownerOf 2 (some .int) 1 21 G (injR SB) [.ref (G.2.2 1042), .int xv1] S (fun r u => k r ∧ u = S) :=
  cn_body (by decide +kernel) (Nat.le_of_ble_eq_true rfl) (fun p e s m args below meth c ls C hw hl => uX8_ownerOf_0 C hw va_S.rf xt1 (lv_sub hl [0, 1] rfl) h)
set_option maxHeartbeats 4000000 in
set_option maxRecDepth 10000 in
theorem uX8_isPlain_0 {p : Program} {l : Launch} {e : Env} {s : State} {m : MethodId} {args : Array Value} {below : List Frame} {meth : Method} {c : Code} {G : GG} {SB : St} (C : Cx p s m args meth c G RX8 cX8_isPlain 2 (some .boolean)) {S : St} {H : Heap} {locs : List Loc} {ls : Array Slot}  {k : Int → Prop} (hw : Wd G ((injR SB) S) H) (hS : va_S (AG G) s.heap H locs) {xv1 : Int32} {x1 : Int} (xt1 : xv1.toInt = x1) (hl : lv_has ls 2 [(0, .ref (G.2.2 1042)), (1, .int xv1)])  (h : wX8_isPlain_0 S x1 k) : W p l e (rmF 2 42) s m args below meth c H locs 0 0 (MQ below (QcI G (injR SB) (fun r u => k r ∧ u = S)) args s 0 0 (AG G)) (F0 m 0 ls []) := by
  refine lv_aload_n C.1.1 C.1.2.1 dX8_isPlain_0 rfl (lv_at hl 0 rfl) ?_
  refine lv_iload_n C.1.1 C.1.2.1 dX8_isPlain_1 rfl (lv_at hl 1 rfl) ?_
  refine y_cVIp C (As := [.int xv1]) (rest := []) ml_X8_380 (kX8_shapeOf l G SB S xt1 h) (ocr SB) (T := TX8) (N := 60) rfl (by decide) ⟨(Nat.le_of_ble_eq_true rfl), (Nat.le_of_ble_eq_true rfl)⟩ hl.1 rfl rfl (Nat.le_of_ble_eq_true rfl) hw hS dX8_isPlain_2 (fun v1 x_1 H locs t1 h hw hS => ?_)
  refine y_iconst C dX8_isPlain_5 ⟨by decide, by decide⟩ (fun v2 t2 => ?_)
  refine y_icmp_eq C t1 t2 dX8_isPlain_6 (tgt := 21) (by decide) (fun c3 => ?_) (fun c3 => ?_)
  · have h := h.1 c3
    refine y_iconst C dX8_isPlain_21 ⟨by decide, by decide⟩ (fun v4 t4 => ?_)
    exact y_zret C hw hS t4 (Or.inl rfl) ⟨h, rfl⟩ dX8_isPlain_22
  · have h := h.2 c3
    refine lv_aload_n C.1.1 C.1.2.1 dX8_isPlain_9 rfl (lv_at hl 0 rfl) ?_
    refine lv_iload_n C.1.1 C.1.2.1 dX8_isPlain_10 rfl (lv_at hl 1 rfl) ?_
    refine y_cVIp C (As := [.int xv1]) (rest := []) ml_X8_383 (kX8_accessOf l G SB S xt1 h) (ocr SB) (T := TX8) (N := 60) rfl (by decide) ⟨(Nat.le_of_ble_eq_true rfl), (Nat.le_of_ble_eq_true rfl)⟩ hl.1 rfl rfl (Nat.le_of_ble_eq_true rfl) hw hS dX8_isPlain_11 (fun v5 x_5 H locs t5 h hw hS => ?_)
    refine y_if_eq C t5 dX8_isPlain_14 (tgt := 21) (by decide) (fun c6 => ?_) (fun c6 => ?_)
    · have h := h.1 c6
      refine y_iconst C dX8_isPlain_21 ⟨by decide, by decide⟩ (fun v7 t7 => ?_)
      exact y_zret C hw hS t7 (Or.inl rfl) ⟨h, rfl⟩ dX8_isPlain_22
    · have h := h.2 c6
      refine y_iconst C dX8_isPlain_17 ⟨by decide, by decide⟩ (fun v8 t8 => ?_)
      refine lv_goto (tgt := 22) C.1.1 C.1.2.1 dX8_isPlain_18 (by decide) ?_
      exact y_zret C hw hS t8 (Or.inr rfl) ⟨h, rfl⟩ dX8_isPlain_22
theorem kX8_isPlain (l : Launch) (G : GG) (SB S : St) {xv1 : Int32} {x1 : Int} (xt1 : xv1.toInt = x1) {k : Int → Prop} (h : wX8_isPlain S x1 k) : CnI l yX8_isPlain cX8_isPlain 2 (some .boolean) 2 42 G (injR SB) [.ref (G.2.2 1042), .int xv1] S (fun r u => k r ∧ u = S) :=
  cn_body (by decide +kernel) (Nat.le_of_ble_eq_true rfl) (fun p e s m args below meth c ls C hw hl => uX8_isPlain_0 C hw va_S.rf xt1 (lv_sub hl [0, 1] rfl) h)
set_option maxHeartbeats 4000000 in
set_option maxRecDepth 10000 in
theorem uX8_toldAs_0 {p : Program} {l : Launch} {e : Env} {s : State} {m : MethodId} {args : Array Value} {below : List Frame} {meth : Method} {c : Code} {G : GG} {SB : St} (C : Cx p s m args meth c G RX8 cX8_toldAs 2 (some .int)) {S : St} {H : Heap} {locs : List Loc} {ls : Array Slot}  {k : Int → Prop} (hw : Wd G ((injR SB) S) H) (hS : va_S (AG G) s.heap H locs) {xv1 : Int32} {x1 : Int} (xt1 : xv1.toInt = x1) (hl : lv_has ls 2 [(0, .ref (G.2.2 1042)), (1, .int xv1)])  (h : wX8_toldAs_0 S x1 k) : W p l e (rmF 1 21) s m args below meth c H locs 0 0 (MQ below (QcI G (injR SB) (fun r u => k r ∧ u = S)) args s 0 0 (AG G)) (F0 m 0 ls []) := by
  refine lv_iload_n C.1.1 C.1.2.1 dX8_toldAs_0 rfl (lv_at hl 1 rfl) ?_
  refine y_sipush C dX8_toldAs_1 ⟨by decide, by decide⟩ (fun v1 t1 => ?_)
  refine y_icmp_ge C xt1 t1 dX8_toldAs_4 (tgt := 11) (by decide) (fun c2 => ?_) (fun c2 => ?_)
  · have h := h.1 c2
    refine y_sipush C dX8_toldAs_11 ⟨by decide, by decide⟩ (fun v3 t3 => ?_)
    refine lv_aload_n C.1.1 C.1.2.1 dX8_toldAs_14 rfl (lv_at hl 0 rfl) ?_
    refine lv_iload_n C.1.1 C.1.2.1 dX8_toldAs_15 rfl (lv_at hl 1 rfl) ?_
    refine y_cVIp C (As := [.int xv1]) (rest := [.int v3]) ml_X8_377 (kX8_memberOf l G SB S xt1 h) (ocr SB) (T := TX8) (N := 60) rfl (by decide) ⟨(Nat.le_of_ble_eq_true rfl), (Nat.le_of_ble_eq_true rfl)⟩ hl.1 rfl rfl (Nat.le_of_ble_eq_true rfl) hw hS dX8_toldAs_16 (fun v4 x_4 H locs t4 h hw hS => ?_)
    refine y_iadd C t3 t4 dX8_toldAs_19 (fun v5 t5 => ?_)
    exact y_iret C hw hS t5 ⟨h, rfl⟩ dX8_toldAs_20
  · have h := h.2 c2
    refine lv_iload_n C.1.1 C.1.2.1 dX8_toldAs_7 rfl (lv_at hl 1 rfl) ?_
    refine lv_goto (tgt := 20) C.1.1 C.1.2.1 dX8_toldAs_8 (by decide) ?_
    exact y_iret C hw hS xt1 ⟨h, rfl⟩ dX8_toldAs_20
theorem kX8_toldAs (l : Launch) (G : GG) (SB S : St) {xv1 : Int32} {x1 : Int} (xt1 : xv1.toInt = x1) {k : Int → Prop} (h : wX8_toldAs S x1 k) : CnI l yX8_toldAs cX8_toldAs 2 (some .int) 1 21 G (injR SB) [.ref (G.2.2 1042), .int xv1] S (fun r u => k r ∧ u = S) :=
  cn_body (by decide +kernel) (Nat.le_of_ble_eq_true rfl) (fun p e s m args below meth c ls C hw hl => uX8_toldAs_0 C hw va_S.rf xt1 (lv_sub hl [0, 1] rfl) h)
set_option maxHeartbeats 4000000 in
set_option maxRecDepth 10000 in
theorem uX8_methodIn_54_b {p : Program} {l : Launch} {e : Env} {s : State} {m : MethodId} {args : Array Value} {below : List Frame} {meth : Method} {c : Code} {G : GG} {SB : St} (C : Cx p s m args meth c G RX8 cX8_methodIn 6 (some .int)) {S : St} {H : Heap} {locs : List Loc} {ls : Array Slot}  {P54 : Int → Prop} {k : Int → Prop} (hw : Wd G ((injR SB) S) H) (hS : va_S (AG G) s.heap H locs) {xv2 : Int32} {x2 : Int} (xt2 : xv2.toInt = x2) {xv3 : Int32} {x3 : Int} (xt3 : xv3.toInt = x3) {xv4 : Int32} {x4 : Int} (xt4 : xv4.toInt = x4) (hl : lv_has ls 6 [(0, .ref (G.2.2 1042)), (2, .int xv2), (3, .int xv3), (4, .int xv4)])  (hP54 : ∀ {H : Heap} {locs : List Loc} {ls : Array Slot} {yv4 : Int32} {y4 : Int}, yv4.toInt = y4 → Wd G ((injR SB) S) H → va_S (AG G) s.heap H locs → lv_has ls 6 [(0, .ref (G.2.2 1042)), (2, .int xv2), (3, .int xv3), (4, .int yv4)] → P54 y4 → W p l e (rmF 5 111) s m args below meth c H locs 0 0 (MQ below (QcI G (injR SB) (fun r u => k r ∧ u = S)) args s 0 0 (AG G)) (F0 m 54 ls [])) (h : wX8_methodIn_54_b S x2 x3 x4 P54 k) : W p l e (rmF 5 111) s m args below meth c H locs 0 0 (MQ below (QcI G (injR SB) (fun r u => k r ∧ u = S)) args s 0 0 (AG G)) (F0 m 54 ls []) := by
  refine lv_iload C.1.1 C.1.2.1 dX8_methodIn_54 (lv_at hl 3 rfl) ?_
  refine lv_aload_n C.1.1 C.1.2.1 dX8_methodIn_56 rfl (lv_at hl 0 rfl) ?_
  refine y_getA C fl_X8_119 hw (ocr SB) rfl (o := 27) rfl dX8_methodIn_57 ?_
  refine lv_iload_n C.1.1 C.1.2.1 dX8_methodIn_60 rfl (lv_at hl 2 rfl) ?_
  obtain ⟨b2, h⟩ := h
  refine y_iald C hw (acr_36 SB) xt3 b2 dX8_methodIn_61 (fun v2 t2 => ?_)
  refine y_icmp_ge C xt4 t2 dX8_methodIn_62 (tgt := 113) (by decide) (fun c3 => ?_) (fun c3 => ?_)
  · have h := h.1 c3
    refine y_iconst C dX8_methodIn_113 ⟨by decide, by decide⟩ (fun v4 t4 => ?_)
    exact y_iret C hw hS t4 ⟨h, rfl⟩ dX8_methodIn_114
  · have h := h.2 c3
    refine lv_aload_n C.1.1 C.1.2.1 dX8_methodIn_65 rfl (lv_at hl 0 rfl) ?_
    refine y_getA C fl_X8_116 hw (ocr SB) rfl (o := 26) rfl dX8_methodIn_66 ?_
    refine lv_iload_n C.1.1 C.1.2.1 dX8_methodIn_69 rfl (lv_at hl 2 rfl) ?_
    obtain ⟨b6, h⟩ := h
    refine y_iald C hw (acr_35 SB) xt3 b6 dX8_methodIn_70 (fun v6 t6 => ?_)
    refine lv_iload C.1.1 C.1.2.1 dX8_methodIn_71 (lv_at hl 3 rfl) ?_
    refine y_iadd C t6 xt4 dX8_methodIn_73 (fun v7 t7 => ?_)
    obtain ⟨x_8, e8⟩ : ∃ z : Int, z = w32 (S 26 x3 + x4) := ⟨_, rfl⟩
    have h := h x_8 e8
    have t8 := t7.trans e8.symm
    refine lv_istore (lv' := [(5, .int v7), (0, .ref (G.2.2 1042)), (2, .int xv2), (3, .int xv3), (4, .int xv4)]) C.1.1 C.1.2.1 dX8_methodIn_74 hl (by decide) rfl (fun ls hl => ?_)
    refine lv_aload_n C.1.1 C.1.2.1 dX8_methodIn_76 rfl (lv_at hl 1 rfl) ?_
    refine lv_aload_n C.1.1 C.1.2.1 dX8_methodIn_77 rfl (lv_at hl 1 rfl) ?_
    refine y_getA C fl_X8_146 hw (ocr SB) rfl (o := 36) rfl dX8_methodIn_78 ?_
    refine y_sipush C dX8_methodIn_81 ⟨by decide, by decide⟩ (fun v10 t10 => ?_)
    refine lv_aload_n C.1.1 C.1.2.1 dX8_methodIn_84 rfl (lv_at hl 1 rfl) ?_
    refine y_getI C fl_X8_208 hw (ocr SB) rfl dX8_methodIn_85 (fun v11 t11 => ?_)
    refine y_imul C t10 t11 dX8_methodIn_88 (fun v12 t12 => ?_)
    refine lv_iload C.1.1 C.1.2.1 dX8_methodIn_89 (lv_at hl 0 rfl) ?_
    refine y_iadd C t12 t8 dX8_methodIn_91 (fun v13 t13 => ?_)
    obtain ⟨b14, h⟩ := h
    refine y_iald C hw (acr_45 SB) t13 b14 dX8_methodIn_92 (fun v14 t14 => ?_)
    refine lv_iload_n C.1.1 C.1.2.1 dX8_methodIn_93 rfl (lv_at hl 2 rfl) ?_
    refine y_cVIp C (As := [.int v14, .int xv2]) (rest := []) ml_X8_347 (kX8_isSought l G SB S t14 xt2 h) (ocr SB) (T := TX8) (N := 60) rfl (by decide) ⟨(Nat.le_of_ble_eq_true rfl), (Nat.le_of_ble_eq_true rfl)⟩ hl.1 rfl rfl (Nat.le_of_ble_eq_true rfl) hw hS dX8_methodIn_94 (fun v15 x_15 H locs t15 h hw hS => ?_)
    refine y_if_eq C t15 dX8_methodIn_97 (tgt := 107) (by decide) (fun c16 => ?_) (fun c16 => ?_)
    · have h := h.1 c16
      obtain ⟨x_17, e17⟩ : ∃ z : Int, z = w32 (x4 + 1) := ⟨_, rfl⟩
      have h := h x_17 e17
      obtain ⟨v17, t17, g17⟩ : ∃ z : Int32, z.toInt = x_17 ∧ xv4 + Int32.ofInt 1 = z := ⟨_, (ti_inc xt4 ⟨by decide, by decide⟩).trans e17.symm, rfl⟩
      refine lv_iinc (v := v17) (lv' := [(4, .int v17), (5, .int v7), (0, .ref (G.2.2 1042)), (2, .int xv2), (3, .int xv3)]) C.1.1 C.1.2.1 dX8_methodIn_107 hl (k := 4) rfl g17 (by decide) rfl (fun ls hl => ?_)
      refine lv_goto (tgt := 54) C.1.1 C.1.2.1 dX8_methodIn_110 (by decide) ?_
      exact hP54 t17 hw hS (lv_sub hl [2, 3, 4, 0] rfl) h
    · have h := h.2 c16
      refine y_sipush C dX8_methodIn_100 ⟨by decide, by decide⟩ (fun v18 t18 => ?_)
      refine lv_iload C.1.1 C.1.2.1 dX8_methodIn_103 (lv_at hl 0 rfl) ?_
      refine y_iadd C t18 t8 dX8_methodIn_105 (fun v19 t19 => ?_)
      exact y_iret C hw hS t19 ⟨h, rfl⟩ dX8_methodIn_106
set_option maxHeartbeats 4000000 in
set_option maxRecDepth 10000 in
theorem uX8_methodIn_54 {p : Program} {l : Launch} {e : Env} {s : State} {m : MethodId} {args : Array Value} {below : List Frame} {meth : Method} {c : Code} {G : GG} {SB : St} (C : Cx p s m args meth c G RX8 cX8_methodIn 6 (some .int)) {S : St} {H : Heap} {locs : List Loc} {ls : Array Slot}  {k : Int → Prop} (hw : Wd G ((injR SB) S) H) (hS : va_S (AG G) s.heap H locs) {xv2 : Int32} {x2 : Int} (xt2 : xv2.toInt = x2) {xv3 : Int32} {x3 : Int} (xt3 : xv3.toInt = x3) {xv4 : Int32} {x4 : Int} (xt4 : xv4.toInt = x4) (hl : lv_has ls 6 [(0, .ref (G.2.2 1042)), (2, .int xv2), (3, .int xv3), (4, .int xv4)])  (h : wX8_methodIn_54 S x2 x3 x4 k) : W p l e (rmF 5 111) s m args below meth c H locs 0 0 (MQ below (QcI G (injR SB) (fun r u => k r ∧ u = S)) args s 0 0 (AG G)) (F0 m 54 ls []) := by
  have key : ∀ (n : Nat) {H : Heap} {locs : List Loc} {ls : Array Slot} {xv4 : Int32} {x4 : Int}, xv4.toInt = x4 → Wd G ((injR SB) S) H → va_S (AG G) s.heap H locs → lv_has ls 6 [(0, .ref (G.2.2 1042)), (2, .int xv2), (3, .int xv3), (4, .int xv4)] → itP (fun (P : Int → Prop) (a : Int) => wX8_methodIn_54_b S x2 x3 a (fun b0 => P (b0)) k) n (x4) → W p l e (rmF 5 111) s m args below meth c H locs 0 0 (MQ below (QcI G (injR SB) (fun r u => k r ∧ u = S)) args s 0 0 (AG G)) (F0 m 54 ls []) := by
    intro n
    induction n with
    | zero => intro H locs ls xv4 x4 xt4 hw hS hl h; exact h.elim
    | succ n ih =>
      intro H locs ls xv4 x4 xt4 hw hS hl h
      exact uX8_methodIn_54_b C hw hS xt2 xt3 xt4 hl  (P54 := fun b0 => itP _ n (b0)) (fun q0 hw hS hl h => ih q0 hw hS hl h) h
  obtain ⟨n, hn⟩ := h
  exact key n xt4 hw hS hl hn
set_option maxHeartbeats 4000000 in
set_option maxRecDepth 10000 in
theorem uX8_methodIn_14_b {p : Program} {l : Launch} {e : Env} {s : State} {m : MethodId} {args : Array Value} {below : List Frame} {meth : Method} {c : Code} {G : GG} {SB : St} (C : Cx p s m args meth c G RX8 cX8_methodIn 6 (some .int)) {S : St} {H : Heap} {locs : List Loc} {ls : Array Slot}  {P14 : Int → Prop} {k : Int → Prop} (hw : Wd G ((injR SB) S) H) (hS : va_S (AG G) s.heap H locs) {xv2 : Int32} {x2 : Int} (xt2 : xv2.toInt = x2) {xv3 : Int32} {x3 : Int} (xt3 : xv3.toInt = x3) {xv4 : Int32} {x4 : Int} (xt4 : xv4.toInt = x4) (hl : lv_has ls 6 [(0, .ref (G.2.2 1042)), (2, .int xv2), (3, .int xv3), (4, .int xv4)])  (hP14 : ∀ {H : Heap} {locs : List Loc} {ls : Array Slot} {yv4 : Int32} {y4 : Int}, yv4.toInt = y4 → Wd G ((injR SB) S) H → va_S (AG G) s.heap H locs → lv_has ls 6 [(0, .ref (G.2.2 1042)), (2, .int xv2), (3, .int xv3), (4, .int yv4)] → P14 y4 → W p l e (rmF 5 111) s m args below meth c H locs 0 0 (MQ below (QcI G (injR SB) (fun r u => k r ∧ u = S)) args s 0 0 (AG G)) (F0 m 14 ls [])) (h : wX8_methodIn_14_b S x2 x3 x4 P14 k) : W p l e (rmF 5 111) s m args below meth c H locs 0 0 (MQ below (QcI G (injR SB) (fun r u => k r ∧ u = S)) args s 0 0 (AG G)) (F0 m 14 ls []) := by
  refine lv_iload C.1.1 C.1.2.1 dX8_methodIn_14 (lv_at hl 3 rfl) ?_
  refine lv_aload_n C.1.1 C.1.2.1 dX8_methodIn_16 rfl (lv_at hl 0 rfl) ?_
  refine y_getA C fl_X8_110 hw (ocr SB) rfl (o := 24) rfl dX8_methodIn_17 ?_
  refine lv_iload_n C.1.1 C.1.2.1 dX8_methodIn_20 rfl (lv_at hl 2 rfl) ?_
  obtain ⟨b2, h⟩ := h
  refine y_iald C hw (acr_33 SB) xt3 b2 dX8_methodIn_21 (fun v2 t2 => ?_)
  refine lv_aload_n C.1.1 C.1.2.1 dX8_methodIn_22 rfl (lv_at hl 0 rfl) ?_
  refine y_getA C fl_X8_113 hw (ocr SB) rfl (o := 25) rfl dX8_methodIn_23 ?_
  refine lv_iload_n C.1.1 C.1.2.1 dX8_methodIn_26 rfl (lv_at hl 2 rfl) ?_
  obtain ⟨b4, h⟩ := h
  refine y_iald C hw (acr_34 SB) xt3 b4 dX8_methodIn_27 (fun v4 t4 => ?_)
  refine y_iadd C t2 t4 dX8_methodIn_28 (fun v5 t5 => ?_)
  refine y_icmp_ge C xt4 t5 dX8_methodIn_29 (tgt := 51) (by decide) (fun c6 => ?_) (fun c6 => ?_)
  · have h := h.1 c6
    refine y_iconst C dX8_methodIn_51 ⟨by decide, by decide⟩ (fun v7 t7 => ?_)
    refine lv_istore (lv' := [(4, .int v7), (0, .ref (G.2.2 1042)), (2, .int xv2), (3, .int xv3)]) C.1.1 C.1.2.1 dX8_methodIn_52 hl (by decide) rfl (fun ls hl => ?_)
    exact uX8_methodIn_54 C hw hS xt2 xt3 t7 (lv_sub hl [1, 2, 3, 0] rfl)  h
  · have h := h.2 c6
    refine lv_aload_n C.1.1 C.1.2.1 dX8_methodIn_32 rfl (lv_at hl 0 rfl) ?_
    refine lv_iload C.1.1 C.1.2.1 dX8_methodIn_33 (lv_at hl 3 rfl) ?_
    refine lv_iload_n C.1.1 C.1.2.1 dX8_methodIn_35 rfl (lv_at hl 1 rfl) ?_
    refine y_cVIp C (As := [.int xv4, .int xv2]) (rest := []) ml_X8_347 (kX8_isSought l G SB S xt4 xt2 h) (ocr SB) (T := TX8) (N := 60) rfl (by decide) ⟨(Nat.le_of_ble_eq_true rfl), (Nat.le_of_ble_eq_true rfl)⟩ hl.1 rfl rfl (Nat.le_of_ble_eq_true rfl) hw hS dX8_methodIn_36 (fun v8 x_8 H locs t8 h hw hS => ?_)
    refine y_if_eq C t8 dX8_methodIn_39 (tgt := 45) (by decide) (fun c9 => ?_) (fun c9 => ?_)
    · have h := h.1 c9
      obtain ⟨x_10, e10⟩ : ∃ z : Int, z = w32 (x4 + 1) := ⟨_, rfl⟩
      have h := h x_10 e10
      obtain ⟨v10, t10, g10⟩ : ∃ z : Int32, z.toInt = x_10 ∧ xv4 + Int32.ofInt 1 = z := ⟨_, (ti_inc xt4 ⟨by decide, by decide⟩).trans e10.symm, rfl⟩
      refine lv_iinc (v := v10) (lv' := [(4, .int v10), (0, .ref (G.2.2 1042)), (2, .int xv2), (3, .int xv3)]) C.1.1 C.1.2.1 dX8_methodIn_45 hl (k := 3) rfl g10 (by decide) rfl (fun ls hl => ?_)
      refine lv_goto (tgt := 14) C.1.1 C.1.2.1 dX8_methodIn_48 (by decide) ?_
      exact hP14 t10 hw hS (lv_sub hl [1, 2, 3, 0] rfl) h
    · have h := h.2 c9
      refine lv_iload C.1.1 C.1.2.1 dX8_methodIn_42 (lv_at hl 3 rfl) ?_
      exact y_iret C hw hS xt4 ⟨h, rfl⟩ dX8_methodIn_44
set_option maxHeartbeats 4000000 in
set_option maxRecDepth 10000 in
theorem uX8_methodIn_14 {p : Program} {l : Launch} {e : Env} {s : State} {m : MethodId} {args : Array Value} {below : List Frame} {meth : Method} {c : Code} {G : GG} {SB : St} (C : Cx p s m args meth c G RX8 cX8_methodIn 6 (some .int)) {S : St} {H : Heap} {locs : List Loc} {ls : Array Slot}  {k : Int → Prop} (hw : Wd G ((injR SB) S) H) (hS : va_S (AG G) s.heap H locs) {xv2 : Int32} {x2 : Int} (xt2 : xv2.toInt = x2) {xv3 : Int32} {x3 : Int} (xt3 : xv3.toInt = x3) {xv4 : Int32} {x4 : Int} (xt4 : xv4.toInt = x4) (hl : lv_has ls 6 [(0, .ref (G.2.2 1042)), (2, .int xv2), (3, .int xv3), (4, .int xv4)])  (h : wX8_methodIn_14 S x2 x3 x4 k) : W p l e (rmF 5 111) s m args below meth c H locs 0 0 (MQ below (QcI G (injR SB) (fun r u => k r ∧ u = S)) args s 0 0 (AG G)) (F0 m 14 ls []) := by
  have key : ∀ (n : Nat) {H : Heap} {locs : List Loc} {ls : Array Slot} {xv4 : Int32} {x4 : Int}, xv4.toInt = x4 → Wd G ((injR SB) S) H → va_S (AG G) s.heap H locs → lv_has ls 6 [(0, .ref (G.2.2 1042)), (2, .int xv2), (3, .int xv3), (4, .int xv4)] → itP (fun (P : Int → Prop) (a : Int) => wX8_methodIn_14_b S x2 x3 a (fun b0 => P (b0)) k) n (x4) → W p l e (rmF 5 111) s m args below meth c H locs 0 0 (MQ below (QcI G (injR SB) (fun r u => k r ∧ u = S)) args s 0 0 (AG G)) (F0 m 14 ls []) := by
    intro n
    induction n with
    | zero => intro H locs ls xv4 x4 xt4 hw hS hl h; exact h.elim
    | succ n ih =>
      intro H locs ls xv4 x4 xt4 hw hS hl h
      exact uX8_methodIn_14_b C hw hS xt2 xt3 xt4 hl  (P14 := fun b0 => itP _ n (b0)) (fun q0 hw hS hl h => ih q0 hw hS hl h) h
  obtain ⟨n, hn⟩ := h
  exact key n xt4 hw hS hl hn
set_option maxHeartbeats 4000000 in
set_option maxRecDepth 10000 in
theorem uX8_methodIn_0 {p : Program} {l : Launch} {e : Env} {s : State} {m : MethodId} {args : Array Value} {below : List Frame} {meth : Method} {c : Code} {G : GG} {SB : St} (C : Cx p s m args meth c G RX8 cX8_methodIn 6 (some .int)) {S : St} {H : Heap} {locs : List Loc} {ls : Array Slot}  {k : Int → Prop} (hw : Wd G ((injR SB) S) H) (hS : va_S (AG G) s.heap H locs) {xv1 : Int32} {x1 : Int} (xt1 : xv1.toInt = x1) {xv2 : Int32} {x2 : Int} (xt2 : xv2.toInt = x2) (hl : lv_has ls 6 [(0, .ref (G.2.2 1042)), (1, .int xv1), (2, .int xv2)])  (h : wX8_methodIn_0 S x1 x2 k) : W p l e (rmF 5 111) s m args below meth c H locs 0 0 (MQ below (QcI G (injR SB) (fun r u => k r ∧ u = S)) args s 0 0 (AG G)) (F0 m 0 ls []) := by
  refine lv_aload_n C.1.1 C.1.2.1 dX8_methodIn_0 rfl (lv_at hl 0 rfl) ?_
  refine lv_iload_n C.1.1 C.1.2.1 dX8_methodIn_1 rfl (lv_at hl 1 rfl) ?_
  refine y_cVIp C (As := [.int xv1]) (rest := []) ml_X8_214 (kX8_t l G SB S xt1 h) (ocr SB) (T := TX8) (N := 60) rfl (by decide) ⟨(Nat.le_of_ble_eq_true rfl), (Nat.le_of_ble_eq_true rfl)⟩ hl.1 rfl rfl (Nat.le_of_ble_eq_true rfl) hw hS dX8_methodIn_2 (fun v1 x_1 H locs t1 h hw hS => ?_)
  refine lv_istore_n (lv' := [(3, .int v1), (0, .ref (G.2.2 1042)), (1, .int xv1), (2, .int xv2)]) C.1.1 C.1.2.1 dX8_methodIn_5 rfl hl (by decide) rfl (fun ls hl => ?_)
  refine lv_aload_n C.1.1 C.1.2.1 dX8_methodIn_6 rfl (lv_at hl 1 rfl) ?_
  refine y_getA C fl_X8_110 hw (ocr SB) rfl (o := 24) rfl dX8_methodIn_7 ?_
  refine lv_iload_n C.1.1 C.1.2.1 dX8_methodIn_10 rfl (lv_at hl 0 rfl) ?_
  obtain ⟨b3, h⟩ := h
  refine y_iald C hw (acr_33 SB) t1 b3 dX8_methodIn_11 (fun v3 t3 => ?_)
  obtain ⟨x_4, e4⟩ : ∃ z : Int, z = S 24 x_1 := ⟨_, rfl⟩
  have h := h x_4 e4
  have t4 := t3.trans e4.symm
  refine lv_istore (lv' := [(4, .int v3), (3, .int v1), (0, .ref (G.2.2 1042)), (1, .int xv1), (2, .int xv2)]) C.1.1 C.1.2.1 dX8_methodIn_12 hl (by decide) rfl (fun ls hl => ?_)
  exact uX8_methodIn_14 C hw hS xt2 t1 t4 (lv_sub hl [2, 4, 1, 0] rfl)  h
theorem kX8_methodIn (l : Launch) (G : GG) (SB S : St) {xv1 : Int32} {x1 : Int} (xt1 : xv1.toInt = x1) {xv2 : Int32} {x2 : Int} (xt2 : xv2.toInt = x2) {k : Int → Prop} (h : wX8_methodIn S x1 x2 k) : CnI l yX8_methodIn cX8_methodIn 6 (some .int) 5 111 G (injR SB) [.ref (G.2.2 1042), .int xv1, .int xv2] S (fun r u => k r ∧ u = S) :=
  cn_body (by decide +kernel) (Nat.le_of_ble_eq_true rfl) (fun p e s m args below meth c ls C hw hl => uX8_methodIn_0 C hw va_S.rf xt1 xt2 (lv_sub hl [0, 1, 2] rfl) h)
set_option maxHeartbeats 4000000 in
set_option maxRecDepth 10000 in
theorem uX8_findSpecific_69 {p : Program} {l : Launch} {e : Env} {s : State} {m : MethodId} {args : Array Value} {below : List Frame} {meth : Method} {c : Code} {G : GG} {SB : St} (C : Cx p s m args meth c G RX8 cX8_findSpecific 6 none) {S : St} {H : Heap} {locs : List Loc} {ls : Array Slot} {P12 : Int → St → Prop} {k : St → Prop} (hw : Wd G ((injR SB) S) H) (hS : va_S (AG G) s.heap H locs) {xv1 : Int32} {x1 : Int} (xt1 : xv1.toInt = x1) {xv2 : Int32} {x2 : Int} (xt2 : xv2.toInt = x2) {xv3 : Int32} {x3 : Int} (xt3 : xv3.toInt = x3) {sv0 : Int32} {s0 : Int} (st0 : sv0.toInt = s0) (hl : lv_has ls 6 [(0, .ref (G.2.2 1042)), (1, .int xv1), (2, .int xv2), (3, .int xv3)]) (hP12 : ∀ {H : Heap} {locs : List Loc} {ls : Array Slot} {Sy : St} {yv3 : Int32} {y3 : Int}, yv3.toInt = y3 → Wd G ((injR SB) Sy) H → va_S (AG G) s.heap H locs → lv_has ls 6 [(0, .ref (G.2.2 1042)), (1, .int xv1), (2, .int xv2), (3, .int yv3)] → P12 y3 Sy → W p l e (rmF 6 136) s m args below meth c H locs 0 0 (MQ below (QcV G (injR SB) k) args s 0 0 (AG G)) (F0 m 12 ls [])) (h : wX8_findSpecific_69 S x1 x2 x3 s0 P12 k) : W p l e (rmF 6 136) s m args below meth c H locs 0 0 (MQ below (QcV G (injR SB) k) args s 0 0 (AG G)) (F0 m 69 ls [.int sv0]) := by
  refine lv_istore (lv' := [(5, .int sv0), (0, .ref (G.2.2 1042)), (1, .int xv1), (2, .int xv2), (3, .int xv3)]) C.1.1 C.1.2.1 dX8_findSpecific_69 hl (by decide) rfl (fun ls hl => ?_)
  refine lv_iload C.1.1 C.1.2.1 dX8_findSpecific_71 (lv_at hl 0 rfl) ?_
  refine y_if_lt C st0 dX8_findSpecific_73 (tgt := 106) (by decide) (fun c1 => ?_) (fun c1 => ?_)
  · have h := h.1 c1
    obtain ⟨x_2, e2⟩ : ∃ z : Int, z = w32 (x3 + 1) := ⟨_, rfl⟩
    have h := h x_2 e2
    obtain ⟨v2, t2, g2⟩ : ∃ z : Int32, z.toInt = x_2 ∧ xv3 + Int32.ofInt 1 = z := ⟨_, (ti_inc xt3 ⟨by decide, by decide⟩).trans e2.symm, rfl⟩
    refine lv_iinc (v := v2) (lv' := [(3, .int v2), (5, .int sv0), (0, .ref (G.2.2 1042)), (1, .int xv1), (2, .int xv2)]) C.1.1 C.1.2.1 dX8_findSpecific_106 hl (k := 4) rfl g2 (by decide) rfl (fun ls hl => ?_)
    refine lv_goto (tgt := 12) C.1.1 C.1.2.1 dX8_findSpecific_109 (by decide) ?_
    exact hP12 t2 hw hS (lv_sub hl [2, 3, 4, 0] rfl) h
  · have h := h.2 c1
    refine lv_aload_n C.1.1 C.1.2.1 dX8_findSpecific_76 rfl (lv_at hl 1 rfl) ?_
    refine lv_iload C.1.1 C.1.2.1 dX8_findSpecific_77 (lv_at hl 0 rfl) ?_
    refine y_cVIp C (As := [.int sv0]) (rest := []) ml_X8_395 (kX8_isPlain l G SB S st0 h) (ocr SB) (T := TX8) (N := 60) rfl (by decide) ⟨(Nat.le_of_ble_eq_true rfl), (Nat.le_of_ble_eq_true rfl)⟩ hl.1 rfl rfl (Nat.le_of_ble_eq_true rfl) hw hS dX8_findSpecific_79 (fun v3 x_3 H locs t3 h hw hS => ?_)
    refine y_if_eq C t3 dX8_findSpecific_82 (tgt := 106) (by decide) (fun c4 => ?_) (fun c4 => ?_)
    · have h := h.1 c4
      obtain ⟨x_5, e5⟩ : ∃ z : Int, z = w32 (x3 + 1) := ⟨_, rfl⟩
      have h := h x_5 e5
      obtain ⟨v5, t5, g5⟩ : ∃ z : Int32, z.toInt = x_5 ∧ xv3 + Int32.ofInt 1 = z := ⟨_, (ti_inc xt3 ⟨by decide, by decide⟩).trans e5.symm, rfl⟩
      refine lv_iinc (v := v5) (lv' := [(3, .int v5), (5, .int sv0), (0, .ref (G.2.2 1042)), (1, .int xv1), (2, .int xv2)]) C.1.1 C.1.2.1 dX8_findSpecific_106 hl (k := 4) rfl g5 (by decide) rfl (fun ls hl => ?_)
      refine lv_goto (tgt := 12) C.1.1 C.1.2.1 dX8_findSpecific_109 (by decide) ?_
      exact hP12 t5 hw hS (lv_sub hl [2, 3, 4, 0] rfl) h
    · have h := h.2 c4
      refine lv_aload_n C.1.1 C.1.2.1 dX8_findSpecific_85 rfl (lv_at hl 1 rfl) ?_
      refine y_getA C fl_X8_149 hw (ocr SB) rfl (o := 37) rfl dX8_findSpecific_86 ?_
      refine lv_aload_n C.1.1 C.1.2.1 dX8_findSpecific_89 rfl (lv_at hl 1 rfl) ?_
      refine y_getI C fl_X8_386 hw (ocr SB) rfl dX8_findSpecific_90 (fun v7 t7 => ?_)
      refine lv_iload C.1.1 C.1.2.1 dX8_findSpecific_93 (lv_at hl 0 rfl) ?_
      obtain ⟨b8, h⟩ := h
      obtain ⟨S_8, e8⟩ : ∃ z : St, z = up S 37 (S 0 50) s0 := ⟨_, rfl⟩
      have h := h S_8 e8
      refine y_iast C hw hS (acr_49 SB) t7 st0 b8 dX8_findSpecific_95 (fun H locs hw hS => ?_)
      have hw : Wd G ((injR SB) S_8) H := by rw [e8]; exact hw
      refine lv_aload_n C.1.1 C.1.2.1 dX8_findSpecific_96 rfl (lv_at hl 1 rfl) ?_
      refine lv_dup C.1.1 C.1.2.1 dX8_findSpecific_97 rfl ?_
      refine y_getI C fl_X8_386 hw (ocr SB) rfl dX8_findSpecific_98 (fun v9 t9 => ?_)
      refine y_iconst C dX8_findSpecific_101 ⟨by decide, by decide⟩ (fun v10 t10 => ?_)
      refine y_iadd C t9 t10 dX8_findSpecific_102 (fun v11 t11 => ?_)
      obtain ⟨S_12, e12⟩ : ∃ z : St, z = up S_8 0 50 (w32 (S_8 0 50 + 1)) := ⟨_, rfl⟩
      have h := h S_12 e12
      refine y_putI C fl_X8_386 fp_8_50 hw hS (ocr SB) rfl t11 dX8_findSpecific_103 (fun H locs hw hS => ?_)
      have hw : Wd G ((injR SB) S_12) H := by rw [e12]; exact hw
      obtain ⟨x_13, e13⟩ : ∃ z : Int, z = w32 (x3 + 1) := ⟨_, rfl⟩
      have h := h x_13 e13
      obtain ⟨v13, t13, g13⟩ : ∃ z : Int32, z.toInt = x_13 ∧ xv3 + Int32.ofInt 1 = z := ⟨_, (ti_inc xt3 ⟨by decide, by decide⟩).trans e13.symm, rfl⟩
      refine lv_iinc (v := v13) (lv' := [(3, .int v13), (5, .int sv0), (0, .ref (G.2.2 1042)), (1, .int xv1), (2, .int xv2)]) C.1.1 C.1.2.1 dX8_findSpecific_106 hl (k := 4) rfl g13 (by decide) rfl (fun ls hl => ?_)
      refine lv_goto (tgt := 12) C.1.1 C.1.2.1 dX8_findSpecific_109 (by decide) ?_
      exact hP12 t13 hw hS (lv_sub hl [2, 3, 4, 0] rfl) h
set_option maxHeartbeats 4000000 in
set_option maxRecDepth 10000 in
theorem uX8_findSpecific_176 {p : Program} {l : Launch} {e : Env} {s : State} {m : MethodId} {args : Array Value} {below : List Frame} {meth : Method} {c : Code} {G : GG} {SB : St} (C : Cx p s m args meth c G RX8 cX8_findSpecific 6 none) {S : St} {H : Heap} {locs : List Loc} {ls : Array Slot} {P114 : Int → St → Prop} {P128 : Int → Int → Prop} {k : St → Prop} (hw : Wd G ((injR SB) S) H) (hS : va_S (AG G) s.heap H locs) {xv3 : Int32} {x3 : Int} (xt3 : xv3.toInt = x3) {xv5 : Int32} {x5 : Int} (xt5 : xv5.toInt = x5) (hl : lv_has ls 6 [(0, .ref (G.2.2 1042)), (3, .int xv3), (5, .int xv5)]) (hP114 : ∀ {H : Heap} {locs : List Loc} {ls : Array Slot} {Sy : St} {yv3 : Int32} {y3 : Int}, yv3.toInt = y3 → Wd G ((injR SB) Sy) H → va_S (AG G) s.heap H locs → lv_has ls 6 [(0, .ref (G.2.2 1042)), (3, .int yv3)] → P114 y3 Sy → W p l e (rmF 6 136) s m args below meth c H locs 0 0 (MQ below (QcV G (injR SB) k) args s 0 0 (AG G)) (F0 m 114 ls [])) (hP128 : ∀ {H : Heap} {locs : List Loc} {ls : Array Slot} {yv4 : Int32} {y4 : Int} {yv5 : Int32} {y5 : Int}, yv4.toInt = y4 → yv5.toInt = y5 → Wd G ((injR SB) S) H → va_S (AG G) s.heap H locs → lv_has ls 6 [(0, .ref (G.2.2 1042)), (3, .int xv3), (4, .int yv4), (5, .int yv5)] → P128 y4 y5 → W p l e (rmF 6 136) s m args below meth c H locs 0 0 (MQ below (QcV G (injR SB) k) args s 0 0 (AG G)) (F0 m 128 ls [])) (h : wX8_findSpecific_176 S x3 x5 P114 P128 k) : W p l e (rmF 6 136) s m args below meth c H locs 0 0 (MQ below (QcV G (injR SB) k) args s 0 0 (AG G)) (F0 m 176 ls []) := by
  refine y_iconst C dX8_findSpecific_176 ⟨by decide, by decide⟩ (fun v1 t1 => ?_)
  refine lv_goto (tgt := 181) C.1.1 C.1.2.1 dX8_findSpecific_177 (by decide) ?_
  refine lv_istore (lv' := [(4, .int v1), (0, .ref (G.2.2 1042)), (3, .int xv3), (5, .int xv5)]) C.1.1 C.1.2.1 dX8_findSpecific_181 hl (by decide) rfl (fun ls hl => ?_)
  obtain ⟨x_2, e2⟩ : ∃ z : Int, z = w32 (x5 + 1) := ⟨_, rfl⟩
  have h := h x_2 e2
  obtain ⟨v2, t2, g2⟩ : ∃ z : Int32, z.toInt = x_2 ∧ xv5 + Int32.ofInt 1 = z := ⟨_, (ti_inc xt5 ⟨by decide, by decide⟩).trans e2.symm, rfl⟩
  refine lv_iinc (v := v2) (lv' := [(5, .int v2), (4, .int v1), (0, .ref (G.2.2 1042)), (3, .int xv3)]) C.1.1 C.1.2.1 dX8_findSpecific_183 hl (k := 3) rfl g2 (by decide) rfl (fun ls hl => ?_)
  refine lv_goto (tgt := 128) C.1.1 C.1.2.1 dX8_findSpecific_186 (by decide) ?_
  exact hP128 t1 t2 hw hS (lv_sub hl [2, 3, 1, 0] rfl) h
set_option maxHeartbeats 4000000 in
set_option maxRecDepth 10000 in
theorem uX8_findSpecific_128_b {p : Program} {l : Launch} {e : Env} {s : State} {m : MethodId} {args : Array Value} {below : List Frame} {meth : Method} {c : Code} {G : GG} {SB : St} (C : Cx p s m args meth c G RX8 cX8_findSpecific 6 none) {S : St} {H : Heap} {locs : List Loc} {ls : Array Slot} {P114 : Int → St → Prop} {P128 : Int → Int → Prop} {k : St → Prop} (hw : Wd G ((injR SB) S) H) (hS : va_S (AG G) s.heap H locs) {xv3 : Int32} {x3 : Int} (xt3 : xv3.toInt = x3) {xv4 : Int32} {x4 : Int} (xt4 : xv4.toInt = x4) {xv5 : Int32} {x5 : Int} (xt5 : xv5.toInt = x5) (hl : lv_has ls 6 [(0, .ref (G.2.2 1042)), (3, .int xv3), (4, .int xv4), (5, .int xv5)]) (hP114 : ∀ {H : Heap} {locs : List Loc} {ls : Array Slot} {Sy : St} {yv3 : Int32} {y3 : Int}, yv3.toInt = y3 → Wd G ((injR SB) Sy) H → va_S (AG G) s.heap H locs → lv_has ls 6 [(0, .ref (G.2.2 1042)), (3, .int yv3)] → P114 y3 Sy → W p l e (rmF 6 136) s m args below meth c H locs 0 0 (MQ below (QcV G (injR SB) k) args s 0 0 (AG G)) (F0 m 114 ls [])) (hP128 : ∀ {H : Heap} {locs : List Loc} {ls : Array Slot} {yv4 : Int32} {y4 : Int} {yv5 : Int32} {y5 : Int}, yv4.toInt = y4 → yv5.toInt = y5 → Wd G ((injR SB) S) H → va_S (AG G) s.heap H locs → lv_has ls 6 [(0, .ref (G.2.2 1042)), (3, .int xv3), (4, .int yv4), (5, .int yv5)] → P128 y4 y5 → W p l e (rmF 6 136) s m args below meth c H locs 0 0 (MQ below (QcV G (injR SB) k) args s 0 0 (AG G)) (F0 m 128 ls [])) (h : wX8_findSpecific_128_b S x3 x4 x5 P114 P128 k) : W p l e (rmF 6 136) s m args below meth c H locs 0 0 (MQ below (QcV G (injR SB) k) args s 0 0 (AG G)) (F0 m 128 ls []) := by
  refine lv_iload C.1.1 C.1.2.1 dX8_findSpecific_128 (lv_at hl 3 rfl) ?_
  refine lv_aload_n C.1.1 C.1.2.1 dX8_findSpecific_130 rfl (lv_at hl 0 rfl) ?_
  refine y_getI C fl_X8_386 hw (ocr SB) rfl dX8_findSpecific_131 (fun v1 t1 => ?_)
  refine y_icmp_ge C xt5 t1 dX8_findSpecific_134 (tgt := 189) (by decide) (fun c2 => ?_) (fun c2 => ?_)
  · have h := h.1 c2
    refine lv_iload C.1.1 C.1.2.1 dX8_findSpecific_189 (lv_at hl 2 rfl) ?_
    refine y_if_eq C xt4 dX8_findSpecific_191 (tgt := 219) (by decide) (fun c3 => ?_) (fun c3 => ?_)
    · have h := h.1 c3
      obtain ⟨x_4, e4⟩ : ∃ z : Int, z = w32 (x3 + 1) := ⟨_, rfl⟩
      have h := h x_4 e4
      obtain ⟨v4, t4, g4⟩ : ∃ z : Int32, z.toInt = x_4 ∧ xv3 + Int32.ofInt 1 = z := ⟨_, (ti_inc xt3 ⟨by decide, by decide⟩).trans e4.symm, rfl⟩
      refine lv_iinc (v := v4) (lv' := [(3, .int v4), (0, .ref (G.2.2 1042)), (4, .int xv4), (5, .int xv5)]) C.1.1 C.1.2.1 dX8_findSpecific_219 hl (k := 1) rfl g4 (by decide) rfl (fun ls hl => ?_)
      refine lv_goto (tgt := 114) C.1.1 C.1.2.1 dX8_findSpecific_222 (by decide) ?_
      exact hP114 t4 hw hS (lv_sub hl [1, 0] rfl) h
    · have h := h.2 c3
      refine lv_aload_n C.1.1 C.1.2.1 dX8_findSpecific_194 rfl (lv_at hl 0 rfl) ?_
      refine y_getA C fl_X8_152 hw (ocr SB) rfl (o := 38) rfl dX8_findSpecific_195 ?_
      refine lv_aload_n C.1.1 C.1.2.1 dX8_findSpecific_198 rfl (lv_at hl 0 rfl) ?_
      refine y_getI C fl_X8_389 hw (ocr SB) rfl dX8_findSpecific_199 (fun v6 t6 => ?_)
      refine lv_aload_n C.1.1 C.1.2.1 dX8_findSpecific_202 rfl (lv_at hl 0 rfl) ?_
      refine y_getA C fl_X8_149 hw (ocr SB) rfl (o := 37) rfl dX8_findSpecific_203 ?_
      refine lv_iload_n C.1.1 C.1.2.1 dX8_findSpecific_206 rfl (lv_at hl 1 rfl) ?_
      obtain ⟨b8, h⟩ := h
      refine y_iald C hw (acr_49 SB) xt3 b8 dX8_findSpecific_207 (fun v8 t8 => ?_)
      obtain ⟨b9, h⟩ := h
      obtain ⟨S_9, e9⟩ : ∃ z : St, z = up S 38 (S 0 52) (S 37 x3) := ⟨_, rfl⟩
      have h := h S_9 e9
      refine y_iast C hw hS (acr_51 SB) t6 t8 b9 dX8_findSpecific_208 (fun H locs hw hS => ?_)
      have hw : Wd G ((injR SB) S_9) H := by rw [e9]; exact hw
      refine lv_aload_n C.1.1 C.1.2.1 dX8_findSpecific_209 rfl (lv_at hl 0 rfl) ?_
      refine lv_dup C.1.1 C.1.2.1 dX8_findSpecific_210 rfl ?_
      refine y_getI C fl_X8_389 hw (ocr SB) rfl dX8_findSpecific_211 (fun v10 t10 => ?_)
      refine y_iconst C dX8_findSpecific_214 ⟨by decide, by decide⟩ (fun v11 t11 => ?_)
      refine y_iadd C t10 t11 dX8_findSpecific_215 (fun v12 t12 => ?_)
      obtain ⟨S_13, e13⟩ : ∃ z : St, z = up S_9 0 52 (w32 (S_9 0 52 + 1)) := ⟨_, rfl⟩
      have h := h S_13 e13
      refine y_putI C fl_X8_389 fp_8_52 hw hS (ocr SB) rfl t12 dX8_findSpecific_216 (fun H locs hw hS => ?_)
      have hw : Wd G ((injR SB) S_13) H := by rw [e13]; exact hw
      obtain ⟨x_14, e14⟩ : ∃ z : Int, z = w32 (x3 + 1) := ⟨_, rfl⟩
      have h := h x_14 e14
      obtain ⟨v14, t14, g14⟩ : ∃ z : Int32, z.toInt = x_14 ∧ xv3 + Int32.ofInt 1 = z := ⟨_, (ti_inc xt3 ⟨by decide, by decide⟩).trans e14.symm, rfl⟩
      refine lv_iinc (v := v14) (lv' := [(3, .int v14), (0, .ref (G.2.2 1042)), (4, .int xv4), (5, .int xv5)]) C.1.1 C.1.2.1 dX8_findSpecific_219 hl (k := 1) rfl g14 (by decide) rfl (fun ls hl => ?_)
      refine lv_goto (tgt := 114) C.1.1 C.1.2.1 dX8_findSpecific_222 (by decide) ?_
      exact hP114 t14 hw hS (lv_sub hl [1, 0] rfl) h
  · have h := h.2 c2
    refine lv_iload C.1.1 C.1.2.1 dX8_findSpecific_137 (lv_at hl 2 rfl) ?_
    refine y_if_eq C xt4 dX8_findSpecific_139 (tgt := 180) (by decide) (fun c15 => ?_) (fun c15 => ?_)
    · have h := h.1 c15
      refine y_iconst C dX8_findSpecific_180 ⟨by decide, by decide⟩ (fun v16 t16 => ?_)
      refine lv_istore (lv' := [(4, .int v16), (0, .ref (G.2.2 1042)), (3, .int xv3), (5, .int xv5)]) C.1.1 C.1.2.1 dX8_findSpecific_181 hl (by decide) rfl (fun ls hl => ?_)
      obtain ⟨x_17, e17⟩ : ∃ z : Int, z = w32 (x5 + 1) := ⟨_, rfl⟩
      have h := h x_17 e17
      obtain ⟨v17, t17, g17⟩ : ∃ z : Int32, z.toInt = x_17 ∧ xv5 + Int32.ofInt 1 = z := ⟨_, (ti_inc xt5 ⟨by decide, by decide⟩).trans e17.symm, rfl⟩
      refine lv_iinc (v := v17) (lv' := [(5, .int v17), (4, .int v16), (0, .ref (G.2.2 1042)), (3, .int xv3)]) C.1.1 C.1.2.1 dX8_findSpecific_183 hl (k := 3) rfl g17 (by decide) rfl (fun ls hl => ?_)
      refine lv_goto (tgt := 128) C.1.1 C.1.2.1 dX8_findSpecific_186 (by decide) ?_
      exact hP128 t16 t17 hw hS (lv_sub hl [2, 3, 1, 0] rfl) h
    · have h := h.2 c15
      refine lv_iload_n C.1.1 C.1.2.1 dX8_findSpecific_142 rfl (lv_at hl 1 rfl) ?_
      refine lv_iload C.1.1 C.1.2.1 dX8_findSpecific_143 (lv_at hl 3 rfl) ?_
      refine y_icmp_eq C xt3 xt5 dX8_findSpecific_145 (tgt := 176) (by decide) (fun c18 => ?_) (fun c18 => ?_)
      · have h := h.1 c18
        exact uX8_findSpecific_176 C hw hS xt3 xt5 (lv_sub hl [0, 1, 3] rfl) hP114 hP128 h
      · have h := h.2 c18
        refine lv_aload_n C.1.1 C.1.2.1 dX8_findSpecific_148 rfl (lv_at hl 0 rfl) ?_
        refine lv_aload_n C.1.1 C.1.2.1 dX8_findSpecific_149 rfl (lv_at hl 0 rfl) ?_
        refine lv_aload_n C.1.1 C.1.2.1 dX8_findSpecific_150 rfl (lv_at hl 0 rfl) ?_
        refine y_getA C fl_X8_149 hw (ocr SB) rfl (o := 37) rfl dX8_findSpecific_151 ?_
        refine lv_iload C.1.1 C.1.2.1 dX8_findSpecific_154 (lv_at hl 3 rfl) ?_
        obtain ⟨b20, h⟩ := h
        refine y_iald C hw (acr_49 SB) xt5 b20 dX8_findSpecific_156 (fun v20 t20 => ?_)
        refine y_cVIp C (As := [.int v20]) (rest := [.ref (G.2.2 1042)]) ml_X8_398 (kX8_ownerOf l G SB S t20 h) (ocr SB) (T := TX8) (N := 60) rfl (by decide) ⟨(Nat.le_of_ble_eq_true rfl), (Nat.le_of_ble_eq_true rfl)⟩ hl.1 rfl rfl (Nat.le_of_ble_eq_true rfl) hw hS dX8_findSpecific_157 (fun v21 x_21 H locs t21 h hw hS => ?_)
        refine lv_aload_n C.1.1 C.1.2.1 dX8_findSpecific_160 rfl (lv_at hl 0 rfl) ?_
        refine lv_aload_n C.1.1 C.1.2.1 dX8_findSpecific_161 rfl (lv_at hl 0 rfl) ?_
        refine y_getA C fl_X8_149 hw (ocr SB) rfl (o := 37) rfl dX8_findSpecific_162 ?_
        refine lv_iload_n C.1.1 C.1.2.1 dX8_findSpecific_165 rfl (lv_at hl 1 rfl) ?_
        obtain ⟨b23, h⟩ := h
        refine y_iald C hw (acr_49 SB) xt3 b23 dX8_findSpecific_166 (fun v23 t23 => ?_)
        refine y_cVIp C (As := [.int v23]) (rest := [.int v21, .ref (G.2.2 1042)]) ml_X8_398 (kX8_ownerOf l G SB S t23 h) (ocr SB) (T := TX8) (N := 60) rfl (by decide) ⟨(Nat.le_of_ble_eq_true rfl), (Nat.le_of_ble_eq_true rfl)⟩ hl.1 rfl rfl (Nat.le_of_ble_eq_true rfl) hw hS dX8_findSpecific_167 (fun v24 x_24 H locs t24 h hw hS => ?_)
        refine y_cVIp C (As := [.int v21, .int v24]) (rest := []) ml_X8_335 (kX8_isUnder l G SB S t21 t24 h) (ocr SB) (T := TX8) (N := 60) rfl (by decide) ⟨(Nat.le_of_ble_eq_true rfl), (Nat.le_of_ble_eq_true rfl)⟩ hl.1 rfl rfl (Nat.le_of_ble_eq_true rfl) hw hS dX8_findSpecific_170 (fun v25 x_25 H locs t25 h hw hS => ?_)
        refine y_if_ne C t25 dX8_findSpecific_173 (tgt := 180) (by decide) (fun c26 => ?_) (fun c26 => ?_)
        · have h := h.1 c26
          refine y_iconst C dX8_findSpecific_180 ⟨by decide, by decide⟩ (fun v27 t27 => ?_)
          refine lv_istore (lv' := [(4, .int v27), (0, .ref (G.2.2 1042)), (3, .int xv3), (5, .int xv5)]) C.1.1 C.1.2.1 dX8_findSpecific_181 hl (by decide) rfl (fun ls hl => ?_)
          obtain ⟨x_28, e28⟩ : ∃ z : Int, z = w32 (x5 + 1) := ⟨_, rfl⟩
          have h := h x_28 e28
          obtain ⟨v28, t28, g28⟩ : ∃ z : Int32, z.toInt = x_28 ∧ xv5 + Int32.ofInt 1 = z := ⟨_, (ti_inc xt5 ⟨by decide, by decide⟩).trans e28.symm, rfl⟩
          refine lv_iinc (v := v28) (lv' := [(5, .int v28), (4, .int v27), (0, .ref (G.2.2 1042)), (3, .int xv3)]) C.1.1 C.1.2.1 dX8_findSpecific_183 hl (k := 3) rfl g28 (by decide) rfl (fun ls hl => ?_)
          refine lv_goto (tgt := 128) C.1.1 C.1.2.1 dX8_findSpecific_186 (by decide) ?_
          exact hP128 t27 t28 hw hS (lv_sub hl [2, 3, 1, 0] rfl) h
        · have h := h.2 c26
          exact uX8_findSpecific_176 C hw hS xt3 xt5 (lv_sub hl [0, 1, 3] rfl) hP114 hP128 h
set_option maxHeartbeats 4000000 in
set_option maxRecDepth 10000 in
theorem uX8_findSpecific_128 {p : Program} {l : Launch} {e : Env} {s : State} {m : MethodId} {args : Array Value} {below : List Frame} {meth : Method} {c : Code} {G : GG} {SB : St} (C : Cx p s m args meth c G RX8 cX8_findSpecific 6 none) {S : St} {H : Heap} {locs : List Loc} {ls : Array Slot} {P114 : Int → St → Prop} {k : St → Prop} (hw : Wd G ((injR SB) S) H) (hS : va_S (AG G) s.heap H locs) {xv3 : Int32} {x3 : Int} (xt3 : xv3.toInt = x3) {xv4 : Int32} {x4 : Int} (xt4 : xv4.toInt = x4) {xv5 : Int32} {x5 : Int} (xt5 : xv5.toInt = x5) (hl : lv_has ls 6 [(0, .ref (G.2.2 1042)), (3, .int xv3), (4, .int xv4), (5, .int xv5)]) (hP114 : ∀ {H : Heap} {locs : List Loc} {ls : Array Slot} {Sy : St} {yv3 : Int32} {y3 : Int}, yv3.toInt = y3 → Wd G ((injR SB) Sy) H → va_S (AG G) s.heap H locs → lv_has ls 6 [(0, .ref (G.2.2 1042)), (3, .int yv3)] → P114 y3 Sy → W p l e (rmF 6 136) s m args below meth c H locs 0 0 (MQ below (QcV G (injR SB) k) args s 0 0 (AG G)) (F0 m 114 ls [])) (h : wX8_findSpecific_128 S x3 x4 x5 P114 k) : W p l e (rmF 6 136) s m args below meth c H locs 0 0 (MQ below (QcV G (injR SB) k) args s 0 0 (AG G)) (F0 m 128 ls []) := by
  have key : ∀ (n : Nat) {H : Heap} {locs : List Loc} {ls : Array Slot} {xv4 : Int32} {x4 : Int} {xv5 : Int32} {x5 : Int}, xv4.toInt = x4 → xv5.toInt = x5 → Wd G ((injR SB) S) H → va_S (AG G) s.heap H locs → lv_has ls 6 [(0, .ref (G.2.2 1042)), (3, .int xv3), (4, .int xv4), (5, .int xv5)] → itP (fun (P : Int × Int → Prop) (a : Int × Int) => wX8_findSpecific_128_b S x3 a.1 a.2 P114 (fun b0 b1 => P (b0, b1)) k) n (x4, x5) → W p l e (rmF 6 136) s m args below meth c H locs 0 0 (MQ below (QcV G (injR SB) k) args s 0 0 (AG G)) (F0 m 128 ls []) := by
    intro n
    induction n with
    | zero => intro H locs ls xv4 x4 xv5 x5 xt4 xt5 hw hS hl h; exact h.elim
    | succ n ih =>
      intro H locs ls xv4 x4 xv5 x5 xt4 xt5 hw hS hl h
      exact uX8_findSpecific_128_b C hw hS xt3 xt4 xt5 hl hP114 (P128 := fun b0 b1 => itP _ n (b0, b1)) (fun q0 q1 hw hS hl h => ih q0 q1 hw hS hl h) h
  obtain ⟨n, hn⟩ := h
  exact key n xt4 xt5 hw hS hl hn
set_option maxHeartbeats 4000000 in
set_option maxRecDepth 10000 in
theorem uX8_findSpecific_114_b {p : Program} {l : Launch} {e : Env} {s : State} {m : MethodId} {args : Array Value} {below : List Frame} {meth : Method} {c : Code} {G : GG} {SB : St} (C : Cx p s m args meth c G RX8 cX8_findSpecific 6 none) {S : St} {H : Heap} {locs : List Loc} {ls : Array Slot}  {P114 : Int → St → Prop} {k : St → Prop} (hw : Wd G ((injR SB) S) H) (hS : va_S (AG G) s.heap H locs) {xv3 : Int32} {x3 : Int} (xt3 : xv3.toInt = x3) (hl : lv_has ls 6 [(0, .ref (G.2.2 1042)), (3, .int xv3)])  (hP114 : ∀ {H : Heap} {locs : List Loc} {ls : Array Slot} {Sy : St} {yv3 : Int32} {y3 : Int}, yv3.toInt = y3 → Wd G ((injR SB) Sy) H → va_S (AG G) s.heap H locs → lv_has ls 6 [(0, .ref (G.2.2 1042)), (3, .int yv3)] → P114 y3 Sy → W p l e (rmF 6 136) s m args below meth c H locs 0 0 (MQ below (QcV G (injR SB) k) args s 0 0 (AG G)) (F0 m 114 ls [])) (h : wX8_findSpecific_114_b S x3 P114 k) : W p l e (rmF 6 136) s m args below meth c H locs 0 0 (MQ below (QcV G (injR SB) k) args s 0 0 (AG G)) (F0 m 114 ls []) := by
  refine lv_iload_n C.1.1 C.1.2.1 dX8_findSpecific_114 rfl (lv_at hl 1 rfl) ?_
  refine lv_aload_n C.1.1 C.1.2.1 dX8_findSpecific_115 rfl (lv_at hl 0 rfl) ?_
  refine y_getI C fl_X8_386 hw (ocr SB) rfl dX8_findSpecific_116 (fun v1 t1 => ?_)
  refine y_icmp_ge C xt3 t1 dX8_findSpecific_119 (tgt := 225) (by decide) (fun c2 => ?_) (fun c2 => ?_)
  · have h := h.1 c2
    exact y_vret C hw hS h dX8_findSpecific_225
  · have h := h.2 c2
    refine y_iconst C dX8_findSpecific_122 ⟨by decide, by decide⟩ (fun v3 t3 => ?_)
    refine lv_istore (lv' := [(4, .int v3), (0, .ref (G.2.2 1042)), (3, .int xv3)]) C.1.1 C.1.2.1 dX8_findSpecific_123 hl (by decide) rfl (fun ls hl => ?_)
    refine y_iconst C dX8_findSpecific_125 ⟨by decide, by decide⟩ (fun v4 t4 => ?_)
    refine lv_istore (lv' := [(5, .int v4), (4, .int v3), (0, .ref (G.2.2 1042)), (3, .int xv3)]) C.1.1 C.1.2.1 dX8_findSpecific_126 hl (by decide) rfl (fun ls hl => ?_)
    exact uX8_findSpecific_128 C hw hS xt3 t3 t4 (lv_sub hl [2, 3, 1, 0] rfl) hP114 h
set_option maxHeartbeats 4000000 in
set_option maxRecDepth 10000 in
theorem uX8_findSpecific_114 {p : Program} {l : Launch} {e : Env} {s : State} {m : MethodId} {args : Array Value} {below : List Frame} {meth : Method} {c : Code} {G : GG} {SB : St} (C : Cx p s m args meth c G RX8 cX8_findSpecific 6 none) {S : St} {H : Heap} {locs : List Loc} {ls : Array Slot}  {k : St → Prop} (hw : Wd G ((injR SB) S) H) (hS : va_S (AG G) s.heap H locs) {xv3 : Int32} {x3 : Int} (xt3 : xv3.toInt = x3) (hl : lv_has ls 6 [(0, .ref (G.2.2 1042)), (3, .int xv3)])  (h : wX8_findSpecific_114 S x3 k) : W p l e (rmF 6 136) s m args below meth c H locs 0 0 (MQ below (QcV G (injR SB) k) args s 0 0 (AG G)) (F0 m 114 ls []) := by
  have key : ∀ (n : Nat) {H : Heap} {locs : List Loc} {ls : Array Slot} {S : St} {xv3 : Int32} {x3 : Int}, xv3.toInt = x3 → Wd G ((injR SB) S) H → va_S (AG G) s.heap H locs → lv_has ls 6 [(0, .ref (G.2.2 1042)), (3, .int xv3)] → itP (fun (P : Int × St → Prop) (a : Int × St) => wX8_findSpecific_114_b a.2 a.1 (fun b0 b1 => P (b0, b1)) k) n (x3, S) → W p l e (rmF 6 136) s m args below meth c H locs 0 0 (MQ below (QcV G (injR SB) k) args s 0 0 (AG G)) (F0 m 114 ls []) := by
    intro n
    induction n with
    | zero => intro H locs ls S xv3 x3 xt3 hw hS hl h; exact h.elim
    | succ n ih =>
      intro H locs ls S xv3 x3 xt3 hw hS hl h
      exact uX8_findSpecific_114_b C hw hS xt3 hl  (P114 := fun b0 b1 => itP _ n (b0, b1)) (fun q0 hw hS hl h => ih q0 hw hS hl h) h
  obtain ⟨n, hn⟩ := h
  exact key n xt3 hw hS hl hn
set_option maxHeartbeats 4000000 in
set_option maxRecDepth 10000 in
theorem uX8_findSpecific_12_b {p : Program} {l : Launch} {e : Env} {s : State} {m : MethodId} {args : Array Value} {below : List Frame} {meth : Method} {c : Code} {G : GG} {SB : St} (C : Cx p s m args meth c G RX8 cX8_findSpecific 6 none) {S : St} {H : Heap} {locs : List Loc} {ls : Array Slot}  {P12 : Int → St → Prop} {k : St → Prop} (hw : Wd G ((injR SB) S) H) (hS : va_S (AG G) s.heap H locs) {xv1 : Int32} {x1 : Int} (xt1 : xv1.toInt = x1) {xv2 : Int32} {x2 : Int} (xt2 : xv2.toInt = x2) {xv3 : Int32} {x3 : Int} (xt3 : xv3.toInt = x3) (hl : lv_has ls 6 [(0, .ref (G.2.2 1042)), (1, .int xv1), (2, .int xv2), (3, .int xv3)])  (hP12 : ∀ {H : Heap} {locs : List Loc} {ls : Array Slot} {Sy : St} {yv3 : Int32} {y3 : Int}, yv3.toInt = y3 → Wd G ((injR SB) Sy) H → va_S (AG G) s.heap H locs → lv_has ls 6 [(0, .ref (G.2.2 1042)), (1, .int xv1), (2, .int xv2), (3, .int yv3)] → P12 y3 Sy → W p l e (rmF 6 136) s m args below meth c H locs 0 0 (MQ below (QcV G (injR SB) k) args s 0 0 (AG G)) (F0 m 12 ls [])) (h : wX8_findSpecific_12_b S x1 x2 x3 P12 k) : W p l e (rmF 6 136) s m args below meth c H locs 0 0 (MQ below (QcV G (injR SB) k) args s 0 0 (AG G)) (F0 m 12 ls []) := by
  refine lv_iload_n C.1.1 C.1.2.1 dX8_findSpecific_12 rfl (lv_at hl 3 rfl) ?_
  refine lv_aload_n C.1.1 C.1.2.1 dX8_findSpecific_13 rfl (lv_at hl 0 rfl) ?_
  refine y_getA C fl_X8_97 hw (ocr SB) rfl (o := 20) rfl dX8_findSpecific_14 ?_
  refine lv_aload_n C.1.1 C.1.2.1 dX8_findSpecific_17 rfl (lv_at hl 0 rfl) ?_
  refine lv_iload_n C.1.1 C.1.2.1 dX8_findSpecific_18 rfl (lv_at hl 1 rfl) ?_
  refine y_cVIp C (As := [.int xv1]) (rest := [.ref (G.2.2 (1062)), .int xv3]) ml_X8_214 (kX8_t l G SB S xt1 h) (ocr SB) (T := TX8) (N := 60) rfl (by decide) ⟨(Nat.le_of_ble_eq_true rfl), (Nat.le_of_ble_eq_true rfl)⟩ hl.1 rfl rfl (Nat.le_of_ble_eq_true rfl) hw hS dX8_findSpecific_19 (fun v2 x_2 H locs t2 h hw hS => ?_)
  obtain ⟨b3, h⟩ := h
  refine y_iald C hw (acr_29 SB) t2 b3 dX8_findSpecific_22 (fun v3 t3 => ?_)
  refine y_icmp_ge C xt3 t3 dX8_findSpecific_23 (tgt := 112) (by decide) (fun c4 => ?_) (fun c4 => ?_)
  · have h := h.1 c4
    refine y_iconst C dX8_findSpecific_112 ⟨by decide, by decide⟩ (fun v5 t5 => ?_)
    refine lv_istore_n (lv' := [(3, .int v5), (0, .ref (G.2.2 1042)), (1, .int xv1), (2, .int xv2)]) C.1.1 C.1.2.1 dX8_findSpecific_113 rfl hl (by decide) rfl (fun ls hl => ?_)
    exact uX8_findSpecific_114 C hw hS t5 (lv_sub hl [1, 0] rfl)  h
  · have h := h.2 c4
    refine lv_aload_n C.1.1 C.1.2.1 dX8_findSpecific_26 rfl (lv_at hl 0 rfl) ?_
    refine y_getA C fl_X8_100 hw (ocr SB) rfl (o := 21) rfl dX8_findSpecific_27 ?_
    refine y_bipush C dX8_findSpecific_30 ⟨by decide, by decide⟩ (fun v7 t7 => ?_)
    refine lv_aload_n C.1.1 C.1.2.1 dX8_findSpecific_32 rfl (lv_at hl 0 rfl) ?_
    refine lv_iload_n C.1.1 C.1.2.1 dX8_findSpecific_33 rfl (lv_at hl 1 rfl) ?_
    refine y_cVIp C (As := [.int xv1]) (rest := [.int v7, .ref (G.2.2 (1063))]) ml_X8_214 (kX8_t l G SB S xt1 h) (ocr SB) (T := TX8) (N := 60) rfl (by decide) ⟨(Nat.le_of_ble_eq_true rfl), (Nat.le_of_ble_eq_true rfl)⟩ hl.1 rfl rfl (Nat.le_of_ble_eq_true rfl) hw hS dX8_findSpecific_34 (fun v8 x_8 H locs t8 h hw hS => ?_)
    refine y_imul C t7 t8 dX8_findSpecific_37 (fun v9 t9 => ?_)
    refine lv_iload_n C.1.1 C.1.2.1 dX8_findSpecific_38 rfl (lv_at hl 3 rfl) ?_
    refine y_iadd C t9 xt3 dX8_findSpecific_39 (fun v10 t10 => ?_)
    obtain ⟨b11, h⟩ := h
    refine y_iald C hw (acr_30 SB) t10 b11 dX8_findSpecific_40 (fun v11 t11 => ?_)
    obtain ⟨x_12, e12⟩ : ∃ z : Int, z = S 21 (w32 (w32 (24 * x_8) + x3)) := ⟨_, rfl⟩
    have h := h x_12 e12
    have t12 := t11.trans e12.symm
    refine lv_istore (lv' := [(4, .int v11), (0, .ref (G.2.2 1042)), (1, .int xv1), (2, .int xv2), (3, .int xv3)]) C.1.1 C.1.2.1 dX8_findSpecific_41 hl (by decide) rfl (fun ls hl => ?_)
    refine lv_aload_n C.1.1 C.1.2.1 dX8_findSpecific_43 rfl (lv_at hl 1 rfl) ?_
    refine y_getA C fl_X8_70 hw (ocr SB) rfl (o := 11) rfl dX8_findSpecific_44 ?_
    refine lv_aload_n C.1.1 C.1.2.1 dX8_findSpecific_47 rfl (lv_at hl 1 rfl) ?_
    refine lv_iload C.1.1 C.1.2.1 dX8_findSpecific_48 (lv_at hl 0 rfl) ?_
    refine y_cVIp C (As := [.int v11]) (rest := [.ref (G.2.2 (1053))]) ml_X8_214 (kX8_t l G SB S t12 h) (ocr SB) (T := TX8) (N := 60) rfl (by decide) ⟨(Nat.le_of_ble_eq_true rfl), (Nat.le_of_ble_eq_true rfl)⟩ hl.1 rfl rfl (Nat.le_of_ble_eq_true rfl) hw hS dX8_findSpecific_50 (fun v14 x_14 H locs t14 h hw hS => ?_)
    obtain ⟨b15, h⟩ := h
    refine y_iald C hw (acr_20 SB) t14 b15 dX8_findSpecific_53 (fun v15 t15 => ?_)
    refine y_iconst C dX8_findSpecific_54 ⟨by decide, by decide⟩ (fun v16 t16 => ?_)
    refine y_icmp_ne C t15 t16 dX8_findSpecific_55 (tgt := 68) (by decide) (fun c17 => ?_) (fun c17 => ?_)
    · have h := h.1 c17
      refine y_iconst C dX8_findSpecific_68 ⟨by decide, by decide⟩ (fun v18 t18 => ?_)
      exact uX8_findSpecific_69 C hw hS xt1 xt2 xt3 t18 (lv_sub hl [1, 2, 3, 4] rfl) hP12 h
    · have h := h.2 c17
      refine lv_aload_n C.1.1 C.1.2.1 dX8_findSpecific_58 rfl (lv_at hl 1 rfl) ?_
      refine lv_iload C.1.1 C.1.2.1 dX8_findSpecific_59 (lv_at hl 0 rfl) ?_
      refine lv_iload_n C.1.1 C.1.2.1 dX8_findSpecific_61 rfl (lv_at hl 3 rfl) ?_
      refine y_cVIp C (As := [.int v11, .int xv2]) (rest := []) ml_X8_392 (kX8_methodIn l G SB S t12 xt2 h) (ocr SB) (T := TX8) (N := 60) rfl (by decide) ⟨(Nat.le_of_ble_eq_true rfl), (Nat.le_of_ble_eq_true rfl)⟩ hl.1 rfl rfl (Nat.le_of_ble_eq_true rfl) hw hS dX8_findSpecific_62 (fun v19 x_19 H locs t19 h hw hS => ?_)
      refine lv_goto (tgt := 69) C.1.1 C.1.2.1 dX8_findSpecific_65 (by decide) ?_
      exact uX8_findSpecific_69 C hw hS xt1 xt2 xt3 t19 (lv_sub hl [1, 2, 3, 4] rfl) hP12 h
set_option maxHeartbeats 4000000 in
set_option maxRecDepth 10000 in
theorem uX8_findSpecific_12 {p : Program} {l : Launch} {e : Env} {s : State} {m : MethodId} {args : Array Value} {below : List Frame} {meth : Method} {c : Code} {G : GG} {SB : St} (C : Cx p s m args meth c G RX8 cX8_findSpecific 6 none) {S : St} {H : Heap} {locs : List Loc} {ls : Array Slot}  {k : St → Prop} (hw : Wd G ((injR SB) S) H) (hS : va_S (AG G) s.heap H locs) {xv1 : Int32} {x1 : Int} (xt1 : xv1.toInt = x1) {xv2 : Int32} {x2 : Int} (xt2 : xv2.toInt = x2) {xv3 : Int32} {x3 : Int} (xt3 : xv3.toInt = x3) (hl : lv_has ls 6 [(0, .ref (G.2.2 1042)), (1, .int xv1), (2, .int xv2), (3, .int xv3)])  (h : wX8_findSpecific_12 S x1 x2 x3 k) : W p l e (rmF 6 136) s m args below meth c H locs 0 0 (MQ below (QcV G (injR SB) k) args s 0 0 (AG G)) (F0 m 12 ls []) := by
  have key : ∀ (n : Nat) {H : Heap} {locs : List Loc} {ls : Array Slot} {S : St} {xv3 : Int32} {x3 : Int}, xv3.toInt = x3 → Wd G ((injR SB) S) H → va_S (AG G) s.heap H locs → lv_has ls 6 [(0, .ref (G.2.2 1042)), (1, .int xv1), (2, .int xv2), (3, .int xv3)] → itP (fun (P : Int × St → Prop) (a : Int × St) => wX8_findSpecific_12_b a.2 x1 x2 a.1 (fun b0 b1 => P (b0, b1)) k) n (x3, S) → W p l e (rmF 6 136) s m args below meth c H locs 0 0 (MQ below (QcV G (injR SB) k) args s 0 0 (AG G)) (F0 m 12 ls []) := by
    intro n
    induction n with
    | zero => intro H locs ls S xv3 x3 xt3 hw hS hl h; exact h.elim
    | succ n ih =>
      intro H locs ls S xv3 x3 xt3 hw hS hl h
      exact uX8_findSpecific_12_b C hw hS xt1 xt2 xt3 hl  (P12 := fun b0 b1 => itP _ n (b0, b1)) (fun q0 hw hS hl h => ih q0 hw hS hl h) h
  obtain ⟨n, hn⟩ := h
  exact key n xt3 hw hS hl hn
set_option maxHeartbeats 4000000 in
set_option maxRecDepth 10000 in
theorem uX8_findSpecific_0 {p : Program} {l : Launch} {e : Env} {s : State} {m : MethodId} {args : Array Value} {below : List Frame} {meth : Method} {c : Code} {G : GG} {SB : St} (C : Cx p s m args meth c G RX8 cX8_findSpecific 6 none) {S : St} {H : Heap} {locs : List Loc} {ls : Array Slot}  {k : St → Prop} (hw : Wd G ((injR SB) S) H) (hS : va_S (AG G) s.heap H locs) {xv1 : Int32} {x1 : Int} (xt1 : xv1.toInt = x1) {xv2 : Int32} {x2 : Int} (xt2 : xv2.toInt = x2) (hl : lv_has ls 6 [(0, .ref (G.2.2 1042)), (1, .int xv1), (2, .int xv2)])  (h : wX8_findSpecific_0 S x1 x2 k) : W p l e (rmF 6 136) s m args below meth c H locs 0 0 (MQ below (QcV G (injR SB) k) args s 0 0 (AG G)) (F0 m 0 ls []) := by
  refine lv_aload_n C.1.1 C.1.2.1 dX8_findSpecific_0 rfl (lv_at hl 0 rfl) ?_
  refine y_iconst C dX8_findSpecific_1 ⟨by decide, by decide⟩ (fun v1 t1 => ?_)
  obtain ⟨S_2, e2⟩ : ∃ z : St, z = up S 0 50 0 := ⟨_, rfl⟩
  have h := h S_2 e2
  refine y_putI C fl_X8_386 fp_8_50 hw hS (ocr SB) rfl t1 dX8_findSpecific_2 (fun H locs hw hS => ?_)
  have hw : Wd G ((injR SB) S_2) H := by rw [e2]; exact hw
  refine lv_aload_n C.1.1 C.1.2.1 dX8_findSpecific_5 rfl (lv_at hl 0 rfl) ?_
  refine y_iconst C dX8_findSpecific_6 ⟨by decide, by decide⟩ (fun v3 t3 => ?_)
  obtain ⟨S_4, e4⟩ : ∃ z : St, z = up S_2 0 52 0 := ⟨_, rfl⟩
  have h := h S_4 e4
  refine y_putI C fl_X8_389 fp_8_52 hw hS (ocr SB) rfl t3 dX8_findSpecific_7 (fun H locs hw hS => ?_)
  have hw : Wd G ((injR SB) S_4) H := by rw [e4]; exact hw
  refine y_iconst C dX8_findSpecific_10 ⟨by decide, by decide⟩ (fun v5 t5 => ?_)
  refine lv_istore_n (lv' := [(3, .int v5), (0, .ref (G.2.2 1042)), (1, .int xv1), (2, .int xv2)]) C.1.1 C.1.2.1 dX8_findSpecific_11 rfl hl (by decide) rfl (fun ls hl => ?_)
  exact uX8_findSpecific_12 C hw hS xt1 xt2 t5 (lv_sub hl [1, 2, 3, 0] rfl)  h
theorem kX8_findSpecific (l : Launch) (G : GG) (SB S : St) {xv1 : Int32} {x1 : Int} (xt1 : xv1.toInt = x1) {xv2 : Int32} {x2 : Int} (xt2 : xv2.toInt = x2) {k : St → Prop} (h : wX8_findSpecific S x1 x2 k) : CnV l yX8_findSpecific cX8_findSpecific 6 none 6 136 G (injR SB) [.ref (G.2.2 1042), .int xv1, .int xv2] S k :=
  cn_body (by decide +kernel) (Nat.le_of_ble_eq_true rfl) (fun p e s m args below meth c ls C hw hl => uX8_findSpecific_0 C hw va_S.rf xt1 xt2 (lv_sub hl [0, 1, 2] rfl) h)
set_option maxHeartbeats 4000000 in
set_option maxRecDepth 10000 in
theorem uX8_countBodies_12_b {p : Program} {l : Launch} {e : Env} {s : State} {m : MethodId} {args : Array Value} {below : List Frame} {meth : Method} {c : Code} {G : GG} {SB : St} (C : Cx p s m args meth c G RX8 cX8_countBodies 2 none) {S : St} {H : Heap} {locs : List Loc} {ls : Array Slot}  {P12 : Int → St → Prop} {k : St → Prop} (hw : Wd G ((injR SB) S) H) (hS : va_S (AG G) s.heap H locs) {xv1 : Int32} {x1 : Int} (xt1 : xv1.toInt = x1) (hl : lv_has ls 2 [(0, .ref (G.2.2 1042)), (1, .int xv1)])  (hP12 : ∀ {H : Heap} {locs : List Loc} {ls : Array Slot} {Sy : St} {yv1 : Int32} {y1 : Int}, yv1.toInt = y1 → Wd G ((injR SB) Sy) H → va_S (AG G) s.heap H locs → lv_has ls 2 [(0, .ref (G.2.2 1042)), (1, .int yv1)] → P12 y1 Sy → W p l e (rmF 2 42) s m args below meth c H locs 0 0 (MQ below (QcV G (injR SB) k) args s 0 0 (AG G)) (F0 m 12 ls [])) (h : wX8_countBodies_12_b S x1 P12 k) : W p l e (rmF 2 42) s m args below meth c H locs 0 0 (MQ below (QcV G (injR SB) k) args s 0 0 (AG G)) (F0 m 12 ls []) := by
  refine lv_iload_n C.1.1 C.1.2.1 dX8_countBodies_12 rfl (lv_at hl 1 rfl) ?_
  refine lv_aload_n C.1.1 C.1.2.1 dX8_countBodies_13 rfl (lv_at hl 0 rfl) ?_
  refine y_getI C fl_X8_389 hw (ocr SB) rfl dX8_countBodies_14 (fun v1 t1 => ?_)
  refine y_icmp_ge C xt1 t1 dX8_countBodies_17 (tgt := 60) (by decide) (fun c2 => ?_) (fun c2 => ?_)
  · have h := h.1 c2
    exact y_vret C hw hS h dX8_countBodies_60
  · have h := h.2 c2
    refine lv_aload_n C.1.1 C.1.2.1 dX8_countBodies_20 rfl (lv_at hl 0 rfl) ?_
    refine lv_aload_n C.1.1 C.1.2.1 dX8_countBodies_21 rfl (lv_at hl 0 rfl) ?_
    refine y_getA C fl_X8_152 hw (ocr SB) rfl (o := 38) rfl dX8_countBodies_22 ?_
    refine lv_iload_n C.1.1 C.1.2.1 dX8_countBodies_25 rfl (lv_at hl 1 rfl) ?_
    obtain ⟨b4, h⟩ := h
    refine y_iald C hw (acr_51 SB) xt1 b4 dX8_countBodies_26 (fun v4 t4 => ?_)
    refine y_cVIp C (As := [.int v4]) (rest := []) ml_X8_380 (kX8_shapeOf l G SB S t4 h) (ocr SB) (T := TX8) (N := 60) rfl (by decide) ⟨(Nat.le_of_ble_eq_true rfl), (Nat.le_of_ble_eq_true rfl)⟩ hl.1 rfl rfl (Nat.le_of_ble_eq_true rfl) hw hS dX8_countBodies_27 (fun v5 x_5 H locs t5 h hw hS => ?_)
    refine y_iconst C dX8_countBodies_30 ⟨by decide, by decide⟩ (fun v6 t6 => ?_)
    refine y_icmp_eq C t5 t6 dX8_countBodies_31 (tgt := 54) (by decide) (fun c7 => ?_) (fun c7 => ?_)
    · have h := h.1 c7
      obtain ⟨x_8, e8⟩ : ∃ z : Int, z = w32 (x1 + 1) := ⟨_, rfl⟩
      have h := h x_8 e8
      obtain ⟨v8, t8, g8⟩ : ∃ z : Int32, z.toInt = x_8 ∧ xv1 + Int32.ofInt 1 = z := ⟨_, (ti_inc xt1 ⟨by decide, by decide⟩).trans e8.symm, rfl⟩
      refine lv_iinc (v := v8) (lv' := [(1, .int v8), (0, .ref (G.2.2 1042))]) C.1.1 C.1.2.1 dX8_countBodies_54 hl (k := 1) rfl g8 (by decide) rfl (fun ls hl => ?_)
      refine lv_goto (tgt := 12) C.1.1 C.1.2.1 dX8_countBodies_57 (by decide) ?_
      exact hP12 t8 hw hS (lv_sub hl [1, 0] rfl) h
    · have h := h.2 c7
      refine lv_aload_n C.1.1 C.1.2.1 dX8_countBodies_34 rfl (lv_at hl 0 rfl) ?_
      refine lv_dup C.1.1 C.1.2.1 dX8_countBodies_35 rfl ?_
      refine y_getI C fl_X8_401 hw (ocr SB) rfl dX8_countBodies_36 (fun v9 t9 => ?_)
      refine y_iconst C dX8_countBodies_39 ⟨by decide, by decide⟩ (fun v10 t10 => ?_)
      refine y_iadd C t9 t10 dX8_countBodies_40 (fun v11 t11 => ?_)
      obtain ⟨S_12, e12⟩ : ∃ z : St, z = up S 0 53 (w32 (S 0 53 + 1)) := ⟨_, rfl⟩
      have h := h S_12 e12
      refine y_putI C fl_X8_401 fp_8_53 hw hS (ocr SB) rfl t11 dX8_countBodies_41 (fun H locs hw hS => ?_)
      have hw : Wd G ((injR SB) S_12) H := by rw [e12]; exact hw
      refine lv_aload_n C.1.1 C.1.2.1 dX8_countBodies_44 rfl (lv_at hl 0 rfl) ?_
      refine lv_aload_n C.1.1 C.1.2.1 dX8_countBodies_45 rfl (lv_at hl 0 rfl) ?_
      refine y_getA C fl_X8_152 hw (ocr SB) rfl (o := 38) rfl dX8_countBodies_46 ?_
      refine lv_iload_n C.1.1 C.1.2.1 dX8_countBodies_49 rfl (lv_at hl 1 rfl) ?_
      obtain ⟨b14, h⟩ := h
      refine y_iald C hw (acr_51 SB) xt1 b14 dX8_countBodies_50 (fun v14 t14 => ?_)
      obtain ⟨S_15, e15⟩ : ∃ z : St, z = up S_12 0 54 (S_12 38 x1) := ⟨_, rfl⟩
      have h := h S_15 e15
      refine y_putI C fl_X8_404 fp_8_54 hw hS (ocr SB) rfl t14 dX8_countBodies_51 (fun H locs hw hS => ?_)
      have hw : Wd G ((injR SB) S_15) H := by rw [e15]; exact hw
      obtain ⟨x_16, e16⟩ : ∃ z : Int, z = w32 (x1 + 1) := ⟨_, rfl⟩
      have h := h x_16 e16
      obtain ⟨v16, t16, g16⟩ : ∃ z : Int32, z.toInt = x_16 ∧ xv1 + Int32.ofInt 1 = z := ⟨_, (ti_inc xt1 ⟨by decide, by decide⟩).trans e16.symm, rfl⟩
      refine lv_iinc (v := v16) (lv' := [(1, .int v16), (0, .ref (G.2.2 1042))]) C.1.1 C.1.2.1 dX8_countBodies_54 hl (k := 1) rfl g16 (by decide) rfl (fun ls hl => ?_)
      refine lv_goto (tgt := 12) C.1.1 C.1.2.1 dX8_countBodies_57 (by decide) ?_
      exact hP12 t16 hw hS (lv_sub hl [1, 0] rfl) h
set_option maxHeartbeats 4000000 in
set_option maxRecDepth 10000 in
theorem uX8_countBodies_12 {p : Program} {l : Launch} {e : Env} {s : State} {m : MethodId} {args : Array Value} {below : List Frame} {meth : Method} {c : Code} {G : GG} {SB : St} (C : Cx p s m args meth c G RX8 cX8_countBodies 2 none) {S : St} {H : Heap} {locs : List Loc} {ls : Array Slot}  {k : St → Prop} (hw : Wd G ((injR SB) S) H) (hS : va_S (AG G) s.heap H locs) {xv1 : Int32} {x1 : Int} (xt1 : xv1.toInt = x1) (hl : lv_has ls 2 [(0, .ref (G.2.2 1042)), (1, .int xv1)])  (h : wX8_countBodies_12 S x1 k) : W p l e (rmF 2 42) s m args below meth c H locs 0 0 (MQ below (QcV G (injR SB) k) args s 0 0 (AG G)) (F0 m 12 ls []) := by
  have key : ∀ (n : Nat) {H : Heap} {locs : List Loc} {ls : Array Slot} {S : St} {xv1 : Int32} {x1 : Int}, xv1.toInt = x1 → Wd G ((injR SB) S) H → va_S (AG G) s.heap H locs → lv_has ls 2 [(0, .ref (G.2.2 1042)), (1, .int xv1)] → itP (fun (P : Int × St → Prop) (a : Int × St) => wX8_countBodies_12_b a.2 a.1 (fun b0 b1 => P (b0, b1)) k) n (x1, S) → W p l e (rmF 2 42) s m args below meth c H locs 0 0 (MQ below (QcV G (injR SB) k) args s 0 0 (AG G)) (F0 m 12 ls []) := by
    intro n
    induction n with
    | zero => intro H locs ls S xv1 x1 xt1 hw hS hl h; exact h.elim
    | succ n ih =>
      intro H locs ls S xv1 x1 xt1 hw hS hl h
      exact uX8_countBodies_12_b C hw hS xt1 hl  (P12 := fun b0 b1 => itP _ n (b0, b1)) (fun q0 hw hS hl h => ih q0 hw hS hl h) h
  obtain ⟨n, hn⟩ := h
  exact key n xt1 hw hS hl hn
set_option maxHeartbeats 4000000 in
set_option maxRecDepth 10000 in
theorem uX8_countBodies_0 {p : Program} {l : Launch} {e : Env} {s : State} {m : MethodId} {args : Array Value} {below : List Frame} {meth : Method} {c : Code} {G : GG} {SB : St} (C : Cx p s m args meth c G RX8 cX8_countBodies 2 none) {S : St} {H : Heap} {locs : List Loc} {ls : Array Slot}  {k : St → Prop} (hw : Wd G ((injR SB) S) H) (hS : va_S (AG G) s.heap H locs)  (hl : lv_has ls 2 [(0, .ref (G.2.2 1042))])  (h : wX8_countBodies_0 S k) : W p l e (rmF 2 42) s m args below meth c H locs 0 0 (MQ below (QcV G (injR SB) k) args s 0 0 (AG G)) (F0 m 0 ls []) := by
  refine lv_aload_n C.1.1 C.1.2.1 dX8_countBodies_0 rfl (lv_at hl 0 rfl) ?_
  refine y_iconst C dX8_countBodies_1 ⟨by decide, by decide⟩ (fun v1 t1 => ?_)
  obtain ⟨S_2, e2⟩ : ∃ z : St, z = up S 0 53 0 := ⟨_, rfl⟩
  have h := h S_2 e2
  refine y_putI C fl_X8_401 fp_8_53 hw hS (ocr SB) rfl t1 dX8_countBodies_2 (fun H locs hw hS => ?_)
  have hw : Wd G ((injR SB) S_2) H := by rw [e2]; exact hw
  refine lv_aload_n C.1.1 C.1.2.1 dX8_countBodies_5 rfl (lv_at hl 0 rfl) ?_
  refine y_iconst C dX8_countBodies_6 ⟨by decide, by decide⟩ (fun v3 t3 => ?_)
  obtain ⟨S_4, e4⟩ : ∃ z : St, z = up S_2 0 54 (-1) := ⟨_, rfl⟩
  have h := h S_4 e4
  refine y_putI C fl_X8_404 fp_8_54 hw hS (ocr SB) rfl t3 dX8_countBodies_7 (fun H locs hw hS => ?_)
  have hw : Wd G ((injR SB) S_4) H := by rw [e4]; exact hw
  refine y_iconst C dX8_countBodies_10 ⟨by decide, by decide⟩ (fun v5 t5 => ?_)
  refine lv_istore_n (lv' := [(1, .int v5), (0, .ref (G.2.2 1042))]) C.1.1 C.1.2.1 dX8_countBodies_11 rfl hl (by decide) rfl (fun ls hl => ?_)
  exact uX8_countBodies_12 C hw hS t5 (lv_sub hl [1, 0] rfl)  h
theorem kX8_countBodies (l : Launch) (G : GG) (SB S : St)  {k : St → Prop} (h : wX8_countBodies S k) : CnV l yX8_countBodies cX8_countBodies 2 none 2 42 G (injR SB) [.ref (G.2.2 1042)] S k :=
  cn_body (by decide +kernel) (Nat.le_of_ble_eq_true rfl) (fun p e s m args below meth c ls C hw hl => uX8_countBodies_0 C hw va_S.rf  (lv_sub hl [0] rfl) h)
set_option maxHeartbeats 4000000 in
set_option maxRecDepth 10000 in
theorem uX8_lookedUp_2_b {p : Program} {l : Launch} {e : Env} {s : State} {m : MethodId} {args : Array Value} {below : List Frame} {meth : Method} {c : Code} {G : GG} {SB : St} (C : Cx p s m args meth c G RX8 cX8_lookedUp 5 (some .int)) {S : St} {H : Heap} {locs : List Loc} {ls : Array Slot}  {P2 : Int → Prop} {k : Int → St → Prop} (hw : Wd G ((injR SB) S) H) (hS : va_S (AG G) s.heap H locs) {xv1 : Int32} {x1 : Int} (xt1 : xv1.toInt = x1) {xv2 : Int32} {x2 : Int} (xt2 : xv2.toInt = x2) {xv3 : Int32} {x3 : Int} (xt3 : xv3.toInt = x3) (hl : lv_has ls 5 [(0, .ref (G.2.2 1042)), (1, .int xv1), (2, .int xv2), (3, .int xv3)])  (hP2 : ∀ {H : Heap} {locs : List Loc} {ls : Array Slot} {yv3 : Int32} {y3 : Int}, yv3.toInt = y3 → Wd G ((injR SB) S) H → va_S (AG G) s.heap H locs → lv_has ls 5 [(0, .ref (G.2.2 1042)), (1, .int xv1), (2, .int xv2), (3, .int yv3)] → P2 y3 → W p l e (rmF 7 161) s m args below meth c H locs 0 0 (MQ below (QcI G (injR SB) k) args s 0 0 (AG G)) (F0 m 2 ls [])) (h : wX8_lookedUp_2_b S x1 x2 x3 P2 k) : W p l e (rmF 7 161) s m args below meth c H locs 0 0 (MQ below (QcI G (injR SB) k) args s 0 0 (AG G)) (F0 m 2 ls []) := by
  refine lv_iload_n C.1.1 C.1.2.1 dX8_lookedUp_2 rfl (lv_at hl 3 rfl) ?_
  refine y_bipush C dX8_lookedUp_3 ⟨by decide, by decide⟩ (fun v1 t1 => ?_)
  refine y_icmp_eq C xt3 t1 dX8_lookedUp_5 (tgt := 38) (by decide) (fun c2 => ?_) (fun c2 => ?_)
  · have h := h.1 c2
    refine lv_aload_n C.1.1 C.1.2.1 dX8_lookedUp_38 rfl (lv_at hl 0 rfl) ?_
    refine lv_iload_n C.1.1 C.1.2.1 dX8_lookedUp_39 rfl (lv_at hl 1 rfl) ?_
    refine lv_iload_n C.1.1 C.1.2.1 dX8_lookedUp_40 rfl (lv_at hl 2 rfl) ?_
    refine y_cVV C (As := [.int xv1, .int xv2]) (rest := []) ml_X8_407 (kX8_findSpecific l G SB S xt1 xt2 h) (ocr SB) (T := TX8) (N := 60) rfl (by decide) ⟨(Nat.le_of_ble_eq_true rfl), (Nat.le_of_ble_eq_true rfl)⟩ hl.1 rfl rfl (Nat.le_of_ble_eq_true rfl) hw hS dX8_lookedUp_41 (fun S_3 H locs h hw hS => ?_)
    refine lv_aload_n C.1.1 C.1.2.1 dX8_lookedUp_44 rfl (lv_at hl 0 rfl) ?_
    refine y_cVV C (As := []) (rest := []) ml_X8_410 (kX8_countBodies l G SB S_3  h) (ocr SB) (T := TX8) (N := 60) rfl (by decide) ⟨(Nat.le_of_ble_eq_true rfl), (Nat.le_of_ble_eq_true rfl)⟩ hl.1 rfl rfl (Nat.le_of_ble_eq_true rfl) hw hS dX8_lookedUp_45 (fun S_4 H locs h hw hS => ?_)
    refine lv_aload_n C.1.1 C.1.2.1 dX8_lookedUp_48 rfl (lv_at hl 0 rfl) ?_
    refine y_getI C fl_X8_386 hw (ocr SB) rfl dX8_lookedUp_49 (fun v5 t5 => ?_)
    refine y_if_ne C t5 dX8_lookedUp_52 (tgt := 59) (by decide) (fun c6 => ?_) (fun c6 => ?_)
    · have h := h.1 c6
      refine lv_aload_n C.1.1 C.1.2.1 dX8_lookedUp_59 rfl (lv_at hl 0 rfl) ?_
      refine y_getI C fl_X8_401 hw (ocr SB) rfl dX8_lookedUp_60 (fun v7 t7 => ?_)
      refine y_iconst C dX8_lookedUp_63 ⟨by decide, by decide⟩ (fun v8 t8 => ?_)
      refine y_icmp_ne C t7 t8 dX8_lookedUp_64 (tgt := 74) (by decide) (fun c9 => ?_) (fun c9 => ?_)
      · have h := h.1 c9
        refine lv_aload_n C.1.1 C.1.2.1 dX8_lookedUp_74 rfl (lv_at hl 0 rfl) ?_
        refine y_getA C fl_X8_149 hw (ocr SB) rfl (o := 37) rfl dX8_lookedUp_75 ?_
        refine y_iconst C dX8_lookedUp_78 ⟨by decide, by decide⟩ (fun v11 t11 => ?_)
        refine y_iald C hw (acr_49 SB) t11 ⟨by decide, by decide⟩ dX8_lookedUp_79 (fun v12 t12 => ?_)
        exact y_iret C hw hS t12 h dX8_lookedUp_80
      · have h := h.2 c9
        refine lv_aload_n C.1.1 C.1.2.1 dX8_lookedUp_67 rfl (lv_at hl 0 rfl) ?_
        refine y_getI C fl_X8_404 hw (ocr SB) rfl dX8_lookedUp_68 (fun v13 t13 => ?_)
        refine lv_goto (tgt := 80) C.1.1 C.1.2.1 dX8_lookedUp_71 (by decide) ?_
        exact y_iret C hw hS t13 h dX8_lookedUp_80
    · have h := h.2 c6
      refine y_iconst C dX8_lookedUp_55 ⟨by decide, by decide⟩ (fun v14 t14 => ?_)
      refine lv_goto (tgt := 80) C.1.1 C.1.2.1 dX8_lookedUp_56 (by decide) ?_
      exact y_iret C hw hS t14 h dX8_lookedUp_80
  · have h := h.2 c2
    refine lv_aload_n C.1.1 C.1.2.1 dX8_lookedUp_8 rfl (lv_at hl 0 rfl) ?_
    refine lv_iload_n C.1.1 C.1.2.1 dX8_lookedUp_9 rfl (lv_at hl 3 rfl) ?_
    refine lv_iload_n C.1.1 C.1.2.1 dX8_lookedUp_10 rfl (lv_at hl 2 rfl) ?_
    refine y_cVIp C (As := [.int xv3, .int xv2]) (rest := []) ml_X8_392 (kX8_methodIn l G SB S xt3 xt2 h) (ocr SB) (T := TX8) (N := 60) rfl (by decide) ⟨(Nat.le_of_ble_eq_true rfl), (Nat.le_of_ble_eq_true rfl)⟩ hl.1 rfl rfl (Nat.le_of_ble_eq_true rfl) hw hS dX8_lookedUp_11 (fun v15 x_15 H locs t15 h hw hS => ?_)
    refine lv_istore (lv' := [(4, .int v15), (0, .ref (G.2.2 1042)), (1, .int xv1), (2, .int xv2), (3, .int xv3)]) C.1.1 C.1.2.1 dX8_lookedUp_14 hl (by decide) rfl (fun ls hl => ?_)
    refine lv_iload C.1.1 C.1.2.1 dX8_lookedUp_16 (lv_at hl 0 rfl) ?_
    refine y_if_lt C t15 dX8_lookedUp_18 (tgt := 24) (by decide) (fun c16 => ?_) (fun c16 => ?_)
    · have h := h.1 c16
      refine lv_aload_n C.1.1 C.1.2.1 dX8_lookedUp_24 rfl (lv_at hl 1 rfl) ?_
      refine y_getA C fl_X8_94 hw (ocr SB) rfl (o := 19) rfl dX8_lookedUp_25 ?_
      refine lv_aload_n C.1.1 C.1.2.1 dX8_lookedUp_28 rfl (lv_at hl 1 rfl) ?_
      refine lv_iload_n C.1.1 C.1.2.1 dX8_lookedUp_29 rfl (lv_at hl 4 rfl) ?_
      refine y_cVIp C (As := [.int xv3]) (rest := [.ref (G.2.2 (1061))]) ml_X8_214 (kX8_t l G SB S xt3 h) (ocr SB) (T := TX8) (N := 60) rfl (by decide) ⟨(Nat.le_of_ble_eq_true rfl), (Nat.le_of_ble_eq_true rfl)⟩ hl.1 rfl rfl (Nat.le_of_ble_eq_true rfl) hw hS dX8_lookedUp_30 (fun v18 x_18 H locs t18 h hw hS => ?_)
      obtain ⟨b19, h⟩ := h
      refine y_iald C hw (acr_28 SB) t18 b19 dX8_lookedUp_33 (fun v19 t19 => ?_)
      obtain ⟨x_20, e20⟩ : ∃ z : Int, z = S 19 x_18 := ⟨_, rfl⟩
      have h := h x_20 e20
      have t20 := t19.trans e20.symm
      refine lv_istore_n (lv' := [(3, .int v19), (4, .int v15), (0, .ref (G.2.2 1042)), (1, .int xv1), (2, .int xv2)]) C.1.1 C.1.2.1 dX8_lookedUp_34 rfl hl (by decide) rfl (fun ls hl => ?_)
      refine lv_goto (tgt := 2) C.1.1 C.1.2.1 dX8_lookedUp_35 (by decide) ?_
      exact hP2 t20 hw hS (lv_sub hl [2, 3, 4, 0] rfl) h
    · have h := h.2 c16
      refine lv_iload C.1.1 C.1.2.1 dX8_lookedUp_21 (lv_at hl 0 rfl) ?_
      exact y_iret C hw hS t15 h dX8_lookedUp_23
set_option maxHeartbeats 4000000 in
set_option maxRecDepth 10000 in
theorem uX8_lookedUp_2 {p : Program} {l : Launch} {e : Env} {s : State} {m : MethodId} {args : Array Value} {below : List Frame} {meth : Method} {c : Code} {G : GG} {SB : St} (C : Cx p s m args meth c G RX8 cX8_lookedUp 5 (some .int)) {S : St} {H : Heap} {locs : List Loc} {ls : Array Slot}  {k : Int → St → Prop} (hw : Wd G ((injR SB) S) H) (hS : va_S (AG G) s.heap H locs) {xv1 : Int32} {x1 : Int} (xt1 : xv1.toInt = x1) {xv2 : Int32} {x2 : Int} (xt2 : xv2.toInt = x2) {xv3 : Int32} {x3 : Int} (xt3 : xv3.toInt = x3) (hl : lv_has ls 5 [(0, .ref (G.2.2 1042)), (1, .int xv1), (2, .int xv2), (3, .int xv3)])  (h : wX8_lookedUp_2 S x1 x2 x3 k) : W p l e (rmF 7 161) s m args below meth c H locs 0 0 (MQ below (QcI G (injR SB) k) args s 0 0 (AG G)) (F0 m 2 ls []) := by
  have key : ∀ (n : Nat) {H : Heap} {locs : List Loc} {ls : Array Slot} {xv3 : Int32} {x3 : Int}, xv3.toInt = x3 → Wd G ((injR SB) S) H → va_S (AG G) s.heap H locs → lv_has ls 5 [(0, .ref (G.2.2 1042)), (1, .int xv1), (2, .int xv2), (3, .int xv3)] → itP (fun (P : Int → Prop) (a : Int) => wX8_lookedUp_2_b S x1 x2 a (fun b0 => P (b0)) k) n (x3) → W p l e (rmF 7 161) s m args below meth c H locs 0 0 (MQ below (QcI G (injR SB) k) args s 0 0 (AG G)) (F0 m 2 ls []) := by
    intro n
    induction n with
    | zero => intro H locs ls xv3 x3 xt3 hw hS hl h; exact h.elim
    | succ n ih =>
      intro H locs ls xv3 x3 xt3 hw hS hl h
      exact uX8_lookedUp_2_b C hw hS xt1 xt2 xt3 hl  (P2 := fun b0 => itP _ n (b0)) (fun q0 hw hS hl h => ih q0 hw hS hl h) h
  obtain ⟨n, hn⟩ := h
  exact key n xt3 hw hS hl hn
set_option maxHeartbeats 4000000 in
set_option maxRecDepth 10000 in
theorem uX8_lookedUp_0 {p : Program} {l : Launch} {e : Env} {s : State} {m : MethodId} {args : Array Value} {below : List Frame} {meth : Method} {c : Code} {G : GG} {SB : St} (C : Cx p s m args meth c G RX8 cX8_lookedUp 5 (some .int)) {S : St} {H : Heap} {locs : List Loc} {ls : Array Slot}  {k : Int → St → Prop} (hw : Wd G ((injR SB) S) H) (hS : va_S (AG G) s.heap H locs) {xv1 : Int32} {x1 : Int} (xt1 : xv1.toInt = x1) {xv2 : Int32} {x2 : Int} (xt2 : xv2.toInt = x2) (hl : lv_has ls 5 [(0, .ref (G.2.2 1042)), (1, .int xv1), (2, .int xv2)])  (h : wX8_lookedUp_0 S x1 x2 k) : W p l e (rmF 7 161) s m args below meth c H locs 0 0 (MQ below (QcI G (injR SB) k) args s 0 0 (AG G)) (F0 m 0 ls []) := by
  refine lv_iload_n C.1.1 C.1.2.1 dX8_lookedUp_0 rfl (lv_at hl 1 rfl) ?_
  refine lv_istore_n (lv' := [(3, .int xv1), (0, .ref (G.2.2 1042)), (1, .int xv1), (2, .int xv2)]) C.1.1 C.1.2.1 dX8_lookedUp_1 rfl hl (by decide) rfl (fun ls hl => ?_)
  exact uX8_lookedUp_2 C hw hS xt1 xt2 xt1 (lv_sub hl [1, 2, 3, 0] rfl)  h
theorem kX8_lookedUp (l : Launch) (G : GG) (SB S : St) {xv1 : Int32} {x1 : Int} (xt1 : xv1.toInt = x1) {xv2 : Int32} {x2 : Int} (xt2 : xv2.toInt = x2) {k : Int → St → Prop} (h : wX8_lookedUp S x1 x2 k) : CnI l yX8_lookedUp cX8_lookedUp 5 (some .int) 7 161 G (injR SB) [.ref (G.2.2 1042), .int xv1, .int xv2] S k :=
  cn_body (by decide +kernel) (Nat.le_of_ble_eq_true rfl) (fun p e s m args below meth c ls C hw hl => uX8_lookedUp_0 C hw va_S.rf xt1 xt2 (lv_sub hl [0, 1, 2] rfl) h)
set_option maxHeartbeats 4000000 in
set_option maxRecDepth 10000 in
theorem uX8_mayHave_114 {p : Program} {l : Launch} {e : Env} {s : State} {m : MethodId} {args : Array Value} {below : List Frame} {meth : Method} {c : Code} {G : GG} {SB : St} (C : Cx p s m args meth c G RX8 cX8_mayHave 7 (some .boolean)) {S : St} {H : Heap} {locs : List Loc} {ls : Array Slot}  {k : Int → Prop} (hw : Wd G ((injR SB) S) H) (hS : va_S (AG G) s.heap H locs) {xv1 : Int32} {x1 : Int} (xt1 : xv1.toInt = x1) {xv4 : Int32} {x4 : Int} (xt4 : xv4.toInt = x4) (hl : lv_has ls 7 [(0, .ref (G.2.2 1042)), (1, .int xv1), (4, .int xv4)])  (h : wX8_mayHave_114 S x1 x4 k) : W p l e (rmF 2 43) s m args below meth c H locs 0 0 (MQ below (QcI G (injR SB) (fun r u => k r ∧ u = S)) args s 0 0 (AG G)) (F0 m 114 ls []) := by
  refine lv_aload_n C.1.1 C.1.2.1 dX8_mayHave_114 rfl (lv_at hl 0 rfl) ?_
  refine lv_iload C.1.1 C.1.2.1 dX8_mayHave_115 (lv_at hl 2 rfl) ?_
  refine lv_iload_n C.1.1 C.1.2.1 dX8_mayHave_117 rfl (lv_at hl 1 rfl) ?_
  refine y_cVIp C (As := [.int xv4, .int xv1]) (rest := []) ml_X8_335 (kX8_isUnder l G SB S xt4 xt1 h) (ocr SB) (T := TX8) (N := 60) rfl (by decide) ⟨(Nat.le_of_ble_eq_true rfl), (Nat.le_of_ble_eq_true rfl)⟩ hl.1 rfl rfl (Nat.le_of_ble_eq_true rfl) hw hS dX8_mayHave_118 (fun v1 x_1 H locs t1 h hw hS => ?_)
  refine y_if_eq C t1 dX8_mayHave_121 (tgt := 128) (by decide) (fun c2 => ?_) (fun c2 => ?_)
  · have h := h.1 c2
    refine y_iconst C dX8_mayHave_128 ⟨by decide, by decide⟩ (fun v3 t3 => ?_)
    exact y_zret C hw hS t3 (Or.inl rfl) ⟨h, rfl⟩ dX8_mayHave_129
  · have h := h.2 c2
    refine y_iconst C dX8_mayHave_124 ⟨by decide, by decide⟩ (fun v4 t4 => ?_)
    refine lv_goto (tgt := 129) C.1.1 C.1.2.1 dX8_mayHave_125 (by decide) ?_
    exact y_zret C hw hS t4 (Or.inr rfl) ⟨h, rfl⟩ dX8_mayHave_129
set_option maxHeartbeats 4000000 in
set_option maxRecDepth 10000 in
theorem uX8_mayHave_0 {p : Program} {l : Launch} {e : Env} {s : State} {m : MethodId} {args : Array Value} {below : List Frame} {meth : Method} {c : Code} {G : GG} {SB : St} (C : Cx p s m args meth c G RX8 cX8_mayHave 7 (some .boolean)) {S : St} {H : Heap} {locs : List Loc} {ls : Array Slot}  {k : Int → Prop} (hw : Wd G ((injR SB) S) H) (hS : va_S (AG G) s.heap H locs) {xv1 : Int32} {x1 : Int} (xt1 : xv1.toInt = x1) {xv2 : Int32} {x2 : Int} (xt2 : xv2.toInt = x2) {xv3 : Int32} {x3 : Int} (xt3 : xv3.toInt = x3) {xv4 : Int32} {x4 : Int} (xt4 : xv4.toInt = x4) (hl : lv_has ls 7 [(0, .ref (G.2.2 1042)), (1, .int xv1), (2, .int xv2), (3, .int xv3), (4, .int xv4)])  (h : wX8_mayHave_0 S x1 x2 x3 x4 k) : W p l e (rmF 2 43) s m args below meth c H locs 0 0 (MQ below (QcI G (injR SB) (fun r u => k r ∧ u = S)) args s 0 0 (AG G)) (F0 m 0 ls []) := by
  refine lv_aload_n C.1.1 C.1.2.1 dX8_mayHave_0 rfl (lv_at hl 0 rfl) ?_
  refine lv_iload_n C.1.1 C.1.2.1 dX8_mayHave_1 rfl (lv_at hl 3 rfl) ?_
  refine y_cVIp C (As := [.int xv3]) (rest := []) ml_X8_398 (kX8_ownerOf l G SB S xt3 h) (ocr SB) (T := TX8) (N := 60) rfl (by decide) ⟨(Nat.le_of_ble_eq_true rfl), (Nat.le_of_ble_eq_true rfl)⟩ hl.1 rfl rfl (Nat.le_of_ble_eq_true rfl) hw hS dX8_mayHave_2 (fun v1 x_1 H locs t1 h hw hS => ?_)
  refine lv_istore (lv' := [(5, .int v1), (0, .ref (G.2.2 1042)), (1, .int xv1), (2, .int xv2), (3, .int xv3), (4, .int xv4)]) C.1.1 C.1.2.1 dX8_mayHave_5 hl (by decide) rfl (fun ls hl => ?_)
  refine lv_aload_n C.1.1 C.1.2.1 dX8_mayHave_7 rfl (lv_at hl 1 rfl) ?_
  refine lv_iload_n C.1.1 C.1.2.1 dX8_mayHave_8 rfl (lv_at hl 4 rfl) ?_
  refine y_cVIp C (As := [.int xv3]) (rest := []) ml_X8_383 (kX8_accessOf l G SB S xt3 h) (ocr SB) (T := TX8) (N := 60) rfl (by decide) ⟨(Nat.le_of_ble_eq_true rfl), (Nat.le_of_ble_eq_true rfl)⟩ hl.1 rfl rfl (Nat.le_of_ble_eq_true rfl) hw hS dX8_mayHave_9 (fun v2 x_2 H locs t2 h hw hS => ?_)
  refine lv_istore (lv' := [(6, .int v2), (5, .int v1), (0, .ref (G.2.2 1042)), (1, .int xv1), (2, .int xv2), (3, .int xv3), (4, .int xv4)]) C.1.1 C.1.2.1 dX8_mayHave_12 hl (by decide) rfl (fun ls hl => ?_)
  refine lv_iload C.1.1 C.1.2.1 dX8_mayHave_14 (lv_at hl 0 rfl) ?_
  refine y_iconst C dX8_mayHave_16 ⟨by decide, by decide⟩ (fun v3 t3 => ?_)
  refine y_icmp_ne C t2 t3 dX8_mayHave_17 (tgt := 22) (by decide) (fun c4 => ?_) (fun c4 => ?_)
  · have h := h.1 c4
    refine lv_iload C.1.1 C.1.2.1 dX8_mayHave_22 (lv_at hl 0 rfl) ?_
    refine y_if_ne C t2 dX8_mayHave_24 (tgt := 57) (by decide) (fun c5 => ?_) (fun c5 => ?_)
    · have h := h.1 c5
      refine lv_aload_n C.1.1 C.1.2.1 dX8_mayHave_57 rfl (lv_at hl 2 rfl) ?_
      refine lv_iload_n C.1.1 C.1.2.1 dX8_mayHave_58 rfl (lv_at hl 3 rfl) ?_
      refine lv_iload C.1.1 C.1.2.1 dX8_mayHave_59 (lv_at hl 1 rfl) ?_
      refine y_cVIp C (As := [.int xv1, .int v1]) (rest := []) ml_X8_258 (kX8_isSamePackage l G SB S xt1 t1 h) (ocr SB) (T := TX8) (N := 60) rfl (by decide) ⟨(Nat.le_of_ble_eq_true rfl), (Nat.le_of_ble_eq_true rfl)⟩ hl.1 rfl rfl (Nat.le_of_ble_eq_true rfl) hw hS dX8_mayHave_61 (fun v6 x_6 H locs t6 h hw hS => ?_)
      refine y_if_eq C t6 dX8_mayHave_64 (tgt := 69) (by decide) (fun c7 => ?_) (fun c7 => ?_)
      · have h := h.1 c7
        refine lv_iload C.1.1 C.1.2.1 dX8_mayHave_69 (lv_at hl 0 rfl) ?_
        refine y_iconst C dX8_mayHave_71 ⟨by decide, by decide⟩ (fun v8 t8 => ?_)
        refine y_icmp_eq C t2 t8 dX8_mayHave_72 (tgt := 85) (by decide) (fun c9 => ?_) (fun c9 => ?_)
        · have h := h.1 c9
          refine y_iconst C dX8_mayHave_85 ⟨by decide, by decide⟩ (fun v10 t10 => ?_)
          exact y_zret C hw hS t10 (Or.inl rfl) ⟨h, rfl⟩ dX8_mayHave_86
        · have h := h.2 c9
          refine lv_aload_n C.1.1 C.1.2.1 dX8_mayHave_75 rfl (lv_at hl 2 rfl) ?_
          refine lv_iload_n C.1.1 C.1.2.1 dX8_mayHave_76 rfl (lv_at hl 3 rfl) ?_
          refine lv_iload C.1.1 C.1.2.1 dX8_mayHave_77 (lv_at hl 1 rfl) ?_
          refine y_cVIp C (As := [.int xv1, .int v1]) (rest := []) ml_X8_335 (kX8_isUnder l G SB S xt1 t1 h) (ocr SB) (T := TX8) (N := 60) rfl (by decide) ⟨(Nat.le_of_ble_eq_true rfl), (Nat.le_of_ble_eq_true rfl)⟩ hl.1 rfl rfl (Nat.le_of_ble_eq_true rfl) hw hS dX8_mayHave_79 (fun v11 x_11 H locs t11 h hw hS => ?_)
          refine y_if_ne C t11 dX8_mayHave_82 (tgt := 87) (by decide) (fun c12 => ?_) (fun c12 => ?_)
          · have h := h.1 c12
            refine lv_aload_n C.1.1 C.1.2.1 dX8_mayHave_87 rfl (lv_at hl 2 rfl) ?_
            refine lv_iload_n C.1.1 C.1.2.1 dX8_mayHave_88 rfl (lv_at hl 5 rfl) ?_
            refine y_cVIp C (As := [.int xv3]) (rest := []) ml_X8_380 (kX8_shapeOf l G SB S xt3 h) (ocr SB) (T := TX8) (N := 60) rfl (by decide) ⟨(Nat.le_of_ble_eq_true rfl), (Nat.le_of_ble_eq_true rfl)⟩ hl.1 rfl rfl (Nat.le_of_ble_eq_true rfl) hw hS dX8_mayHave_89 (fun v13 x_13 H locs t13 h hw hS => ?_)
            refine y_iconst C dX8_mayHave_92 ⟨by decide, by decide⟩ (fun v14 t14 => ?_)
            refine y_icmp_eq C t13 t14 dX8_mayHave_93 (tgt := 124) (by decide) (fun c15 => ?_) (fun c15 => ?_)
            · have h := h.1 c15
              refine y_iconst C dX8_mayHave_124 ⟨by decide, by decide⟩ (fun v16 t16 => ?_)
              refine lv_goto (tgt := 129) C.1.1 C.1.2.1 dX8_mayHave_125 (by decide) ?_
              exact y_zret C hw hS t16 (Or.inr rfl) ⟨h, rfl⟩ dX8_mayHave_129
            · have h := h.2 c15
              refine lv_aload_n C.1.1 C.1.2.1 dX8_mayHave_96 rfl (lv_at hl 2 rfl) ?_
              refine lv_iload_n C.1.1 C.1.2.1 dX8_mayHave_97 rfl (lv_at hl 4 rfl) ?_
              refine lv_iload_n C.1.1 C.1.2.1 dX8_mayHave_98 rfl (lv_at hl 3 rfl) ?_
              refine y_cVIp C (As := [.int xv2, .int xv1]) (rest := []) ml_X8_335 (kX8_isUnder l G SB S xt2 xt1 h) (ocr SB) (T := TX8) (N := 60) rfl (by decide) ⟨(Nat.le_of_ble_eq_true rfl), (Nat.le_of_ble_eq_true rfl)⟩ hl.1 rfl rfl (Nat.le_of_ble_eq_true rfl) hw hS dX8_mayHave_99 (fun v17 x_17 H locs t17 h hw hS => ?_)
              refine y_if_ne C t17 dX8_mayHave_102 (tgt := 114) (by decide) (fun c18 => ?_) (fun c18 => ?_)
              · have h := h.1 c18
                exact uX8_mayHave_114 C hw hS xt1 xt4 (lv_sub hl [2, 3, 6] rfl)  h
              · have h := h.2 c18
                refine lv_aload_n C.1.1 C.1.2.1 dX8_mayHave_105 rfl (lv_at hl 2 rfl) ?_
                refine lv_iload_n C.1.1 C.1.2.1 dX8_mayHave_106 rfl (lv_at hl 3 rfl) ?_
                refine lv_iload_n C.1.1 C.1.2.1 dX8_mayHave_107 rfl (lv_at hl 4 rfl) ?_
                refine y_cVIp C (As := [.int xv1, .int xv2]) (rest := []) ml_X8_335 (kX8_isUnder l G SB S xt1 xt2 h) (ocr SB) (T := TX8) (N := 60) rfl (by decide) ⟨(Nat.le_of_ble_eq_true rfl), (Nat.le_of_ble_eq_true rfl)⟩ hl.1 rfl rfl (Nat.le_of_ble_eq_true rfl) hw hS dX8_mayHave_108 (fun v19 x_19 H locs t19 h hw hS => ?_)
                refine y_if_eq C t19 dX8_mayHave_111 (tgt := 128) (by decide) (fun c20 => ?_) (fun c20 => ?_)
                · have h := h.1 c20
                  refine y_iconst C dX8_mayHave_128 ⟨by decide, by decide⟩ (fun v21 t21 => ?_)
                  exact y_zret C hw hS t21 (Or.inl rfl) ⟨h, rfl⟩ dX8_mayHave_129
                · have h := h.2 c20
                  exact uX8_mayHave_114 C hw hS xt1 xt4 (lv_sub hl [2, 3, 6] rfl)  h
          · have h := h.2 c12
            refine y_iconst C dX8_mayHave_85 ⟨by decide, by decide⟩ (fun v22 t22 => ?_)
            exact y_zret C hw hS t22 (Or.inl rfl) ⟨h, rfl⟩ dX8_mayHave_86
      · have h := h.2 c7
        refine y_iconst C dX8_mayHave_67 ⟨by decide, by decide⟩ (fun v23 t23 => ?_)
        exact y_zret C hw hS t23 (Or.inr rfl) ⟨h, rfl⟩ dX8_mayHave_68
    · have h := h.2 c5
      refine lv_aload_n C.1.1 C.1.2.1 dX8_mayHave_27 rfl (lv_at hl 2 rfl) ?_
      refine y_getA C fl_X8_73 hw (ocr SB) rfl (o := 12) rfl dX8_mayHave_28 ?_
      refine lv_aload_n C.1.1 C.1.2.1 dX8_mayHave_31 rfl (lv_at hl 2 rfl) ?_
      refine lv_iload_n C.1.1 C.1.2.1 dX8_mayHave_32 rfl (lv_at hl 3 rfl) ?_
      refine y_cVIp C (As := [.int xv1]) (rest := [.ref (G.2.2 (1054))]) ml_X8_214 (kX8_t l G SB S xt1 h) (ocr SB) (T := TX8) (N := 60) rfl (by decide) ⟨(Nat.le_of_ble_eq_true rfl), (Nat.le_of_ble_eq_true rfl)⟩ hl.1 rfl rfl (Nat.le_of_ble_eq_true rfl) hw hS dX8_mayHave_33 (fun v25 x_25 H locs t25 h hw hS => ?_)
      obtain ⟨b26, h⟩ := h
      refine y_iald C hw (acr_21 SB) t25 b26 dX8_mayHave_36 (fun v26 t26 => ?_)
      refine lv_aload_n C.1.1 C.1.2.1 dX8_mayHave_37 rfl (lv_at hl 2 rfl) ?_
      refine y_getA C fl_X8_73 hw (ocr SB) rfl (o := 12) rfl dX8_mayHave_38 ?_
      refine lv_aload_n C.1.1 C.1.2.1 dX8_mayHave_41 rfl (lv_at hl 2 rfl) ?_
      refine lv_iload C.1.1 C.1.2.1 dX8_mayHave_42 (lv_at hl 1 rfl) ?_
      refine y_cVIp C (As := [.int v1]) (rest := [.ref (G.2.2 (1054)), .int v26]) ml_X8_214 (kX8_t l G SB S t1 h) (ocr SB) (T := TX8) (N := 60) rfl (by decide) ⟨(Nat.le_of_ble_eq_true rfl), (Nat.le_of_ble_eq_true rfl)⟩ hl.1 rfl rfl (Nat.le_of_ble_eq_true rfl) hw hS dX8_mayHave_44 (fun v28 x_28 H locs t28 h hw hS => ?_)
      obtain ⟨b29, h⟩ := h
      refine y_iald C hw (acr_21 SB) t28 b29 dX8_mayHave_47 (fun v29 t29 => ?_)
      refine y_icmp_ne C t26 t29 dX8_mayHave_48 (tgt := 55) (by decide) (fun c30 => ?_) (fun c30 => ?_)
      · have h := h.1 c30
        refine y_iconst C dX8_mayHave_55 ⟨by decide, by decide⟩ (fun v31 t31 => ?_)
        exact y_zret C hw hS t31 (Or.inl rfl) ⟨h, rfl⟩ dX8_mayHave_56
      · have h := h.2 c30
        refine y_iconst C dX8_mayHave_51 ⟨by decide, by decide⟩ (fun v32 t32 => ?_)
        refine lv_goto (tgt := 56) C.1.1 C.1.2.1 dX8_mayHave_52 (by decide) ?_
        exact y_zret C hw hS t32 (Or.inr rfl) ⟨h, rfl⟩ dX8_mayHave_56
  · have h := h.2 c4
    refine y_iconst C dX8_mayHave_20 ⟨by decide, by decide⟩ (fun v33 t33 => ?_)
    exact y_zret C hw hS t33 (Or.inr rfl) ⟨h, rfl⟩ dX8_mayHave_21
theorem kX8_mayHave (l : Launch) (G : GG) (SB S : St) {xv1 : Int32} {x1 : Int} (xt1 : xv1.toInt = x1) {xv2 : Int32} {x2 : Int} (xt2 : xv2.toInt = x2) {xv3 : Int32} {x3 : Int} (xt3 : xv3.toInt = x3) {xv4 : Int32} {x4 : Int} (xt4 : xv4.toInt = x4) {k : Int → Prop} (h : wX8_mayHave S x1 x2 x3 x4 k) : CnI l yX8_mayHave cX8_mayHave 7 (some .boolean) 2 43 G (injR SB) [.ref (G.2.2 1042), .int xv1, .int xv2, .int xv3, .int xv4] S (fun r u => k r ∧ u = S) :=
  cn_body (by decide +kernel) (Nat.le_of_ble_eq_true rfl) (fun p e s m args below meth c ls C hw hl => uX8_mayHave_0 C hw va_S.rf xt1 xt2 xt3 xt4 (lv_sub hl [0, 1, 2, 3, 4] rfl) h)
