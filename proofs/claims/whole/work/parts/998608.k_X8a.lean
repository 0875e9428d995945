/-! by program: the machine meets the models -/
set_option maxHeartbeats 4000000 in
set_option maxRecDepth 10000 in
theorem uX8_in_0 {p : Program} {l : Launch} {e : Env} {s : State} {m : MethodId} {args : Array Value} {below : List Frame} {meth : Method} {c : Code} {G : GG} {SB : St} (C : Cx p s m args meth c G RX8 cX8_in 3 (some .boolean)) {S : St} {H : Heap} {locs : List Loc} {ls : Array Slot}  {k : Int → Prop} (hw : Wd G ((injR SB) S) H) (hS : va_S (AG G) s.heap H locs) {xv0 : Int32} {x0 : Int} (xt0 : xv0.toInt = x0) {xv1 : Int32} {x1 : Int} (xt1 : xv1.toInt = x1) {xv2 : Int32} {x2 : Int} (xt2 : xv2.toInt = x2) (hl : lv_has ls 3 [(0, .int xv0), (1, .int xv1), (2, .int xv2)])  (h : wX8_in_0 S x0 x1 x2 k) : W p l e (rmF 0 0) s m args below meth c H locs 0 0 (MQ below (QcI G (injR SB) (fun r u => k r ∧ u = S)) args s 0 0 (AG G)) (F0 m 0 ls []) := by
  refine lv_iload_n C.1.1 C.1.2.1 dX8_in_0 rfl (lv_at hl 0 rfl) ?_
  refine lv_iload_n C.1.1 C.1.2.1 dX8_in_1 rfl (lv_at hl 1 rfl) ?_
  refine y_icmp_lt C xt0 xt1 dX8_in_2 (tgt := 14) (by decide) (fun c1 => ?_) (fun c1 => ?_)
  · have h := h.1 c1
    refine y_iconst C dX8_in_14 ⟨by decide, by decide⟩ (fun v2 t2 => ?_)
    exact y_zret C hw hS t2 (Or.inl rfl) ⟨h, rfl⟩ dX8_in_15
  · have h := h.2 c1
    refine lv_iload_n C.1.1 C.1.2.1 dX8_in_5 rfl (lv_at hl 0 rfl) ?_
    refine lv_iload_n C.1.1 C.1.2.1 dX8_in_6 rfl (lv_at hl 2 rfl) ?_
    refine y_icmp_gt C xt0 xt2 dX8_in_7 (tgt := 14) (by decide) (fun c3 => ?_) (fun c3 => ?_)
    · have h := h.1 c3
      refine y_iconst C dX8_in_14 ⟨by decide, by decide⟩ (fun v4 t4 => ?_)
      exact y_zret C hw hS t4 (Or.inl rfl) ⟨h, rfl⟩ dX8_in_15
    · have h := h.2 c3
      refine y_iconst C dX8_in_10 ⟨by decide, by decide⟩ (fun v5 t5 => ?_)
      refine lv_goto (tgt := 15) C.1.1 C.1.2.1 dX8_in_11 (by decide) ?_
      exact y_zret C hw hS t5 (Or.inr rfl) ⟨h, rfl⟩ dX8_in_15
theorem kX8_in (l : Launch) (G : GG) (SB S : St) {xv0 : Int32} {x0 : Int} (xt0 : xv0.toInt = x0) {xv1 : Int32} {x1 : Int} (xt1 : xv1.toInt = x1) {xv2 : Int32} {x2 : Int} (xt2 : xv2.toInt = x2) {k : Int → Prop} (h : wX8_in S x0 x1 x2 k) : CnI l yX8_in cX8_in 3 (some .boolean) 0 0 G (injR SB) [.int xv0, .int xv1, .int xv2] S (fun r u => k r ∧ u = S) :=
  cn_body (by decide +kernel) (Nat.le_of_ble_eq_true rfl) (fun p e s m args below meth c ls C hw hl => uX8_in_0 C hw va_S.rf xt0 xt1 xt2 (lv_sub hl [0, 1, 2] rfl) h)
set_option maxHeartbeats 4000000 in
set_option maxRecDepth 10000 in
theorem uX8_feed_20_b {p : Program} {l : Launch} {e : Env} {s : State} {m : MethodId} {args : Array Value} {below : List Frame} {meth : Method} {c : Code} {G : GG} {SB : St} (C : Cx p s m args meth c G RX8 cX8_feed 8 (some .int)) {S : St} {H : Heap} {locs : List Loc} {ls : Array Slot}  {P20 : Int → St → Prop} {k : Int → St → Prop} (hw : Wd G ((injR SB) S) H) (hS : va_S (AG G) s.heap H locs) {xv1 : Int32} {x1 : Int} (xt1 : xv1.toInt = x1) {xv2 : Int32} {x2 : Int} (xt2 : xv2.toInt = x2) {xv3 : Int32} {x3 : Int} (xt3 : xv3.toInt = x3) {xv4 : Int32} {x4 : Int} (xt4 : xv4.toInt = x4) {xv5 : Int32} {x5 : Int} (xt5 : xv5.toInt = x5) {xv6 : Int32} {x6 : Int} (xt6 : xv6.toInt = x6) (hl : lv_has ls 8 [(0, .ref (G.2.2 1042)), (1, .int xv1), (2, .int xv2), (3, .int xv3), (4, .int xv4), (5, .int xv5), (6, .int xv6)])  (hP20 : ∀ {H : Heap} {locs : List Loc} {ls : Array Slot} {Sy : St} {yv6 : Int32} {y6 : Int}, yv6.toInt = y6 → Wd G ((injR SB) Sy) H → va_S (AG G) s.heap H locs → lv_has ls 8 [(0, .ref (G.2.2 1042)), (1, .int xv1), (2, .int xv2), (3, .int xv3), (4, .int xv4), (5, .int xv5), (6, .int yv6)] → P20 y6 Sy → W p l e (rmF 0 0) s m args below meth c H locs 0 0 (MQ below (QcI G (injR SB) k) args s 0 0 (AG G)) (F0 m 20 ls [])) (h : wX8_feed_20_b S x1 x2 x3 x4 x5 x6 P20 k) : W p l e (rmF 0 0) s m args below meth c H locs 0 0 (MQ below (QcI G (injR SB) k) args s 0 0 (AG G)) (F0 m 20 ls []) := by
  refine lv_iload C.1.1 C.1.2.1 dX8_feed_20 (lv_at hl 6 rfl) ?_
  refine y_if_lt C xt6 dX8_feed_22 (tgt := 118) (by decide) (fun c1 => ?_) (fun c1 => ?_)
  · have h := h.1 c1
    refine lv_aload_n C.1.1 C.1.2.1 dX8_feed_118 rfl (lv_at hl 0 rfl) ?_
    refine lv_dup C.1.1 C.1.2.1 dX8_feed_119 rfl ?_
    refine y_getI C fl_X8_161 hw (ocr SB) rfl dX8_feed_120 (fun v2 t2 => ?_)
    refine y_bipush C dX8_feed_123 ⟨by decide, by decide⟩ (fun v3 t3 => ?_)
    refine y_iadd C t2 t3 dX8_feed_125 (fun v4 t4 => ?_)
    obtain ⟨S_5, e5⟩ : ∃ z : St, z = up S 0 1 (w32 (S 0 1 + 20)) := ⟨_, rfl⟩
    have h := h S_5 e5
    refine y_putI C fl_X8_161 fp_8_1 hw hS (ocr SB) rfl t4 dX8_feed_126 (fun H locs hw hS => ?_)
    have hw : Wd G ((injR SB) S_5) H := by rw [e5]; exact hw
    refine lv_aload_n C.1.1 C.1.2.1 dX8_feed_129 rfl (lv_at hl 0 rfl) ?_
    refine y_getI C fl_X8_161 hw (ocr SB) rfl dX8_feed_130 (fun v6 t6 => ?_)
    exact y_iret C hw hS t6 h dX8_feed_133
  · have h := h.2 c1
    refine lv_aload_n C.1.1 C.1.2.1 dX8_feed_25 rfl (lv_at hl 0 rfl) ?_
    refine y_getI C fl_X8_161 hw (ocr SB) rfl dX8_feed_26 (fun v7 t7 => ?_)
    refine y_iconst C dX8_feed_29 ⟨by decide, by decide⟩ (fun v8 t8 => ?_)
    refine y_iadd C t7 t8 dX8_feed_30 (fun v9 t9 => ?_)
    refine lv_iload C.1.1 C.1.2.1 dX8_feed_31 (lv_at hl 6 rfl) ?_
    refine y_bipush C dX8_feed_33 ⟨by decide, by decide⟩ (fun v10 t10 => ?_)
    refine y_idiv C xt6 t10 (by decide) dX8_feed_35 (fun v11 t11 => ?_)
    refine y_isub C t9 t11 dX8_feed_36 (fun v12 t12 => ?_)
    obtain ⟨x_13, e13⟩ : ∃ z : Int, z = w32 ((w32 (S 0 1 + 3)) - (div32 x6 8)) := ⟨_, rfl⟩
    have h := h x_13 e13
    have t13 := t12.trans e13.symm
    refine lv_istore (lv' := [(7, .int v12), (0, .ref (G.2.2 1042)), (1, .int xv1), (2, .int xv2), (3, .int xv3), (4, .int xv4), (5, .int xv5), (6, .int xv6)]) C.1.1 C.1.2.1 dX8_feed_37 hl (by decide) rfl (fun ls hl => ?_)
    refine lv_aload_n C.1.1 C.1.2.1 dX8_feed_39 rfl (lv_at hl 1 rfl) ?_
    refine y_getA C fl_X8_7 hw (ocr SB) rfl (o := 1) rfl dX8_feed_40 ?_
    refine lv_iload C.1.1 C.1.2.1 dX8_feed_43 (lv_at hl 0 rfl) ?_
    refine lv_iload_n C.1.1 C.1.2.1 dX8_feed_45 rfl (lv_at hl 2 rfl) ?_
    refine lv_iload C.1.1 C.1.2.1 dX8_feed_46 (lv_at hl 7 rfl) ?_
    refine y_ishr C xt1 xt6 dX8_feed_48 (fun v15 t15 => ?_)
    refine y_i2b C t15 dX8_feed_49 (fun v16 t16 => ?_)
    obtain ⟨b17, h⟩ := h
    obtain ⟨S_17, e17⟩ : ∃ z : St, z = up S 1 x_13 (sb8 (sb8 (shr32 x1 x6))) := ⟨_, rfl⟩
    have h := h S_17 e17
    refine y_bast C hw hS (acr_0 SB) t13 t16 b17 dX8_feed_50 (fun H locs hw hS => ?_)
    have hw : Wd G ((injR SB) S_17) H := by rw [e17]; exact hw
    refine lv_aload_n C.1.1 C.1.2.1 dX8_feed_51 rfl (lv_at hl 1 rfl) ?_
    refine y_getA C fl_X8_7 hw (ocr SB) rfl (o := 1) rfl dX8_feed_52 ?_
    refine lv_iload C.1.1 C.1.2.1 dX8_feed_55 (lv_at hl 0 rfl) ?_
    refine y_iconst C dX8_feed_57 ⟨by decide, by decide⟩ (fun v19 t19 => ?_)
    refine y_iadd C t13 t19 dX8_feed_58 (fun v20 t20 => ?_)
    refine lv_iload_n C.1.1 C.1.2.1 dX8_feed_59 rfl (lv_at hl 3 rfl) ?_
    refine lv_iload C.1.1 C.1.2.1 dX8_feed_60 (lv_at hl 7 rfl) ?_
    refine y_ishr C xt2 xt6 dX8_feed_62 (fun v21 t21 => ?_)
    refine y_i2b C t21 dX8_feed_63 (fun v22 t22 => ?_)
    obtain ⟨b23, h⟩ := h
    obtain ⟨S_23, e23⟩ : ∃ z : St, z = up S_17 1 (w32 (x_13 + 4)) (sb8 (sb8 (shr32 x2 x6))) := ⟨_, rfl⟩
    have h := h S_23 e23
    refine y_bast C hw hS (acr_0 SB) t20 t22 b23 dX8_feed_64 (fun H locs hw hS => ?_)
    have hw : Wd G ((injR SB) S_23) H := by rw [e23]; exact hw
    refine lv_aload_n C.1.1 C.1.2.1 dX8_feed_65 rfl (lv_at hl 1 rfl) ?_
    refine y_getA C fl_X8_7 hw (ocr SB) rfl (o := 1) rfl dX8_feed_66 ?_
    refine lv_iload C.1.1 C.1.2.1 dX8_feed_69 (lv_at hl 0 rfl) ?_
    refine y_bipush C dX8_feed_71 ⟨by decide, by decide⟩ (fun v25 t25 => ?_)
    refine y_iadd C t13 t25 dX8_feed_73 (fun v26 t26 => ?_)
    refine lv_iload_n C.1.1 C.1.2.1 dX8_feed_74 rfl (lv_at hl 4 rfl) ?_
    refine lv_iload C.1.1 C.1.2.1 dX8_feed_75 (lv_at hl 7 rfl) ?_
    refine y_ishr C xt3 xt6 dX8_feed_77 (fun v27 t27 => ?_)
    refine y_i2b C t27 dX8_feed_78 (fun v28 t28 => ?_)
    obtain ⟨b29, h⟩ := h
    obtain ⟨S_29, e29⟩ : ∃ z : St, z = up S_23 1 (w32 (x_13 + 8)) (sb8 (sb8 (shr32 x3 x6))) := ⟨_, rfl⟩
    have h := h S_29 e29
    refine y_bast C hw hS (acr_0 SB) t26 t28 b29 dX8_feed_79 (fun H locs hw hS => ?_)
    have hw : Wd G ((injR SB) S_29) H := by rw [e29]; exact hw
    refine lv_aload_n C.1.1 C.1.2.1 dX8_feed_80 rfl (lv_at hl 1 rfl) ?_
    refine y_getA C fl_X8_7 hw (ocr SB) rfl (o := 1) rfl dX8_feed_81 ?_
    refine lv_iload C.1.1 C.1.2.1 dX8_feed_84 (lv_at hl 0 rfl) ?_
    refine y_bipush C dX8_feed_86 ⟨by decide, by decide⟩ (fun v31 t31 => ?_)
    refine y_iadd C t13 t31 dX8_feed_88 (fun v32 t32 => ?_)
    refine lv_iload C.1.1 C.1.2.1 dX8_feed_89 (lv_at hl 5 rfl) ?_
    refine lv_iload C.1.1 C.1.2.1 dX8_feed_91 (lv_at hl 7 rfl) ?_
    refine y_ishr C xt4 xt6 dX8_feed_93 (fun v33 t33 => ?_)
    refine y_i2b C t33 dX8_feed_94 (fun v34 t34 => ?_)
    obtain ⟨b35, h⟩ := h
    obtain ⟨S_35, e35⟩ : ∃ z : St, z = up S_29 1 (w32 (x_13 + 12)) (sb8 (sb8 (shr32 x4 x6))) := ⟨_, rfl⟩
    have h := h S_35 e35
    refine y_bast C hw hS (acr_0 SB) t32 t34 b35 dX8_feed_95 (fun H locs hw hS => ?_)
    have hw : Wd G ((injR SB) S_35) H := by rw [e35]; exact hw
    refine lv_aload_n C.1.1 C.1.2.1 dX8_feed_96 rfl (lv_at hl 1 rfl) ?_
    refine y_getA C fl_X8_7 hw (ocr SB) rfl (o := 1) rfl dX8_feed_97 ?_
    refine lv_iload C.1.1 C.1.2.1 dX8_feed_100 (lv_at hl 0 rfl) ?_
    refine y_bipush C dX8_feed_102 ⟨by decide, by decide⟩ (fun v37 t37 => ?_)
    refine y_iadd C t13 t37 dX8_feed_104 (fun v38 t38 => ?_)
    refine lv_iload C.1.1 C.1.2.1 dX8_feed_105 (lv_at hl 6 rfl) ?_
    refine lv_iload C.1.1 C.1.2.1 dX8_feed_107 (lv_at hl 7 rfl) ?_
    refine y_ishr C xt5 xt6 dX8_feed_109 (fun v39 t39 => ?_)
    refine y_i2b C t39 dX8_feed_110 (fun v40 t40 => ?_)
    obtain ⟨b41, h⟩ := h
    obtain ⟨S_41, e41⟩ : ∃ z : St, z = up S_35 1 (w32 (x_13 + 16)) (sb8 (sb8 (shr32 x5 x6))) := ⟨_, rfl⟩
    have h := h S_41 e41
    refine y_bast C hw hS (acr_0 SB) t38 t40 b41 dX8_feed_111 (fun H locs hw hS => ?_)
    have hw : Wd G ((injR SB) S_41) H := by rw [e41]; exact hw
    obtain ⟨x_42, e42⟩ : ∃ z : Int, z = w32 (x6 + (-8)) := ⟨_, rfl⟩
    have h := h x_42 e42
    obtain ⟨v42, t42, g42⟩ : ∃ z : Int32, z.toInt = x_42 ∧ xv6 + Int32.ofInt (-8) = z := ⟨_, (ti_inc xt6 ⟨by decide, by decide⟩).trans e42.symm, rfl⟩
    refine lv_iinc (v := v42) (lv' := [(6, .int v42), (7, .int v12), (0, .ref (G.2.2 1042)), (1, .int xv1), (2, .int xv2), (3, .int xv3), (4, .int xv4), (5, .int xv5)]) C.1.1 C.1.2.1 dX8_feed_112 hl (k := 7) rfl g42 (by decide) rfl (fun ls hl => ?_)
    refine lv_goto (tgt := 20) C.1.1 C.1.2.1 dX8_feed_115 (by decide) ?_
    exact hP20 t42 hw hS (lv_sub hl [2, 3, 4, 5, 6, 7, 0] rfl) h
set_option maxHeartbeats 4000000 in
set_option maxRecDepth 10000 in
theorem uX8_feed_20 {p : Program} {l : Launch} {e : Env} {s : State} {m : MethodId} {args : Array Value} {below : List Frame} {meth : Method} {c : Code} {G : GG} {SB : St} (C : Cx p s m args meth c G RX8 cX8_feed 8 (some .int)) {S : St} {H : Heap} {locs : List Loc} {ls : Array Slot}  {k : Int → St → Prop} (hw : Wd G ((injR SB) S) H) (hS : va_S (AG G) s.heap H locs) {xv1 : Int32} {x1 : Int} (xt1 : xv1.toInt = x1) {xv2 : Int32} {x2 : Int} (xt2 : xv2.toInt = x2) {xv3 : Int32} {x3 : Int} (xt3 : xv3.toInt = x3) {xv4 : Int32} {x4 : Int} (xt4 : xv4.toInt = x4) {xv5 : Int32} {x5 : Int} (xt5 : xv5.toInt = x5) {xv6 : Int32} {x6 : Int} (xt6 : xv6.toInt = x6) (hl : lv_has ls 8 [(0, .ref (G.2.2 1042)), (1, .int xv1), (2, .int xv2), (3, .int xv3), (4, .int xv4), (5, .int xv5), (6, .int xv6)])  (h : wX8_feed_20 S x1 x2 x3 x4 x5 x6 k) : W p l e (rmF 0 0) s m args below meth c H locs 0 0 (MQ below (QcI G (injR SB) k) args s 0 0 (AG G)) (F0 m 20 ls []) := by
  have key : ∀ (n : Nat) {H : Heap} {locs : List Loc} {ls : Array Slot} {S : St} {xv6 : Int32} {x6 : Int}, xv6.toInt = x6 → Wd G ((injR SB) S) H → va_S (AG G) s.heap H locs → lv_has ls 8 [(0, .ref (G.2.2 1042)), (1, .int xv1), (2, .int xv2), (3, .int xv3), (4, .int xv4), (5, .int xv5), (6, .int xv6)] → itP (fun (P : Int × St → Prop) (a : Int × St) => wX8_feed_20_b a.2 x1 x2 x3 x4 x5 a.1 (fun b0 b1 => P (b0, b1)) k) n (x6, S) → W p l e (rmF 0 0) s m args below meth c H locs 0 0 (MQ below (QcI G (injR SB) k) args s 0 0 (AG G)) (F0 m 20 ls []) := by
    intro n
    induction n with
    | zero => intro H locs ls S xv6 x6 xt6 hw hS hl h; exact h.elim
    | succ n ih =>
      intro H locs ls S xv6 x6 xt6 hw hS hl h
      exact uX8_feed_20_b C hw hS xt1 xt2 xt3 xt4 xt5 xt6 hl  (P20 := fun b0 b1 => itP _ n (b0, b1)) (fun q0 hw hS hl h => ih q0 hw hS hl h) h
  obtain ⟨n, hn⟩ := h
  exact key n xt6 hw hS hl hn
set_option maxHeartbeats 4000000 in
set_option maxRecDepth 10000 in
theorem uX8_feed_0 {p : Program} {l : Launch} {e : Env} {s : State} {m : MethodId} {args : Array Value} {below : List Frame} {meth : Method} {c : Code} {G : GG} {SB : St} (C : Cx p s m args meth c G RX8 cX8_feed 8 (some .int)) {S : St} {H : Heap} {locs : List Loc} {ls : Array Slot}  {k : Int → St → Prop} (hw : Wd G ((injR SB) S) H) (hS : va_S (AG G) s.heap H locs) {xv1 : Int32} {x1 : Int} (xt1 : xv1.toInt = x1) {xv2 : Int32} {x2 : Int} (xt2 : xv2.toInt = x2) {xv3 : Int32} {x3 : Int} (xt3 : xv3.toInt = x3) {xv4 : Int32} {x4 : Int} (xt4 : xv4.toInt = x4) {xv5 : Int32} {x5 : Int} (xt5 : xv5.toInt = x5) (hl : lv_has ls 8 [(0, .ref (G.2.2 1042)), (1, .int xv1), (2, .int xv2), (3, .int xv3), (4, .int xv4), (5, .int xv5)])  (h : wX8_feed_0 S x1 x2 x3 x4 x5 k) : W p l e (rmF 0 0) s m args below meth c H locs 0 0 (MQ below (QcI G (injR SB) k) args s 0 0 (AG G)) (F0 m 0 ls []) := by
  refine lv_aload_n C.1.1 C.1.2.1 dX8_feed_0 rfl (lv_at hl 0 rfl) ?_
  refine y_getI C fl_X8_161 hw (ocr SB) rfl dX8_feed_1 (fun v1 t1 => ?_)
  refine y_bipush C dX8_feed_4 ⟨by decide, by decide⟩ (fun v2 t2 => ?_)
  refine y_iadd C t1 t2 dX8_feed_6 (fun v3 t3 => ?_)
  refine y_sipush C dX8_feed_7 ⟨by decide, by decide⟩ (fun v4 t4 => ?_)
  refine y_icmp_le C t3 t4 dX8_feed_10 (tgt := 16) (by decide) (fun c5 => ?_) (fun c5 => ?_)
  · have h := h.1 c5
    refine y_bipush C dX8_feed_16 ⟨by decide, by decide⟩ (fun v6 t6 => ?_)
    refine lv_istore (lv' := [(6, .int v6), (0, .ref (G.2.2 1042)), (1, .int xv1), (2, .int xv2), (3, .int xv3), (4, .int xv4), (5, .int xv5)]) C.1.1 C.1.2.1 dX8_feed_18 hl (by decide) rfl (fun ls hl => ?_)
    exact uX8_feed_20 C hw hS xt1 xt2 xt3 xt4 xt5 t6 (lv_sub hl [1, 2, 3, 4, 5, 6, 0] rfl)  h
  · have h := h.2 c5
    refine y_bipush C dX8_feed_13 ⟨by decide, by decide⟩ (fun v7 t7 => ?_)
    exact y_iret C hw hS t7 h dX8_feed_15
theorem kX8_feed (l : Launch) (G : GG) (SB S : St) {xv1 : Int32} {x1 : Int} (xt1 : xv1.toInt = x1) {xv2 : Int32} {x2 : Int} (xt2 : xv2.toInt = x2) {xv3 : Int32} {x3 : Int} (xt3 : xv3.toInt = x3) {xv4 : Int32} {x4 : Int} (xt4 : xv4.toInt = x4) {xv5 : Int32} {x5 : Int} (xt5 : xv5.toInt = x5) {k : Int → St → Prop} (h : wX8_feed S x1 x2 x3 x4 x5 k) : CnI l yX8_feed cX8_feed 8 (some .int) 0 0 G (injR SB) [.ref (G.2.2 1042), .int xv1, .int xv2, .int xv3, .int xv4, .int xv5] S k :=
  cn_body (by decide +kernel) (Nat.le_of_ble_eq_true rfl) (fun p e s m args below meth c ls C hw hl => uX8_feed_0 C hw va_S.rf xt1 xt2 xt3 xt4 xt5 (lv_sub hl [0, 1, 2, 3, 4, 5] rfl) h)
set_option maxHeartbeats 4000000 in
set_option maxRecDepth 10000 in
theorem uX8_trim_0 {p : Program} {l : Launch} {e : Env} {s : State} {m : MethodId} {args : Array Value} {below : List Frame} {meth : Method} {c : Code} {G : GG} {SB : St} (C : Cx p s m args meth c G RX8 cX8_trim 2 (some .int)) {S : St} {H : Heap} {locs : List Loc} {ls : Array Slot}  {k : Int → St → Prop} (hw : Wd G ((injR SB) S) H) (hS : va_S (AG G) s.heap H locs) {xv1 : Int32} {x1 : Int} (xt1 : xv1.toInt = x1) (hl : lv_has ls 2 [(0, .ref (G.2.2 1042)), (1, .int xv1)])  (h : wX8_trim_0 S x1 k) : W p l e (rmF 1 22) s m args below meth c H locs 0 0 (MQ below (QcI G (injR SB) k) args s 0 0 (AG G)) (F0 m 0 ls []) := by
  refine lv_iload_n C.1.1 C.1.2.1 dX8_trim_0 rfl (lv_at hl 1 rfl) ?_
  refine y_iconst C dX8_trim_1 ⟨by decide, by decide⟩ (fun v1 t1 => ?_)
  refine lv_aload_n C.1.1 C.1.2.1 dX8_trim_2 rfl (lv_at hl 0 rfl) ?_
  refine y_getI C fl_X8_161 hw (ocr SB) rfl dX8_trim_3 (fun v2 t2 => ?_)
  refine y_cSIp C (As := [.int xv1, .int v1, .int v2]) (rest := []) ms_X8_165 (kX8_in l G SB S xt1 t1 t2 h) ⟨(Nat.le_of_ble_eq_true rfl), (Nat.le_of_ble_eq_true rfl)⟩ hl.1 rfl rfl (Nat.le_of_ble_eq_true rfl) hw hS dX8_trim_6 (fun v3 x_3 H locs t3 h hw hS => ?_)
  refine y_if_ne C t3 dX8_trim_9 (tgt := 15) (by decide) (fun c4 => ?_) (fun c4 => ?_)
  · have h := h.1 c4
    refine lv_aload_n C.1.1 C.1.2.1 dX8_trim_15 rfl (lv_at hl 0 rfl) ?_
    refine lv_iload_n C.1.1 C.1.2.1 dX8_trim_16 rfl (lv_at hl 1 rfl) ?_
    obtain ⟨S_5, e5⟩ : ∃ z : St, z = up S 0 1 x1 := ⟨_, rfl⟩
    have h := h S_5 e5
    refine y_putI C fl_X8_161 fp_8_1 hw hS (ocr SB) rfl xt1 dX8_trim_17 (fun H locs hw hS => ?_)
    have hw : Wd G ((injR SB) S_5) H := by rw [e5]; exact hw
    refine lv_iload_n C.1.1 C.1.2.1 dX8_trim_20 rfl (lv_at hl 1 rfl) ?_
    exact y_iret C hw hS xt1 h dX8_trim_21
  · have h := h.2 c4
    refine y_bipush C dX8_trim_12 ⟨by decide, by decide⟩ (fun v6 t6 => ?_)
    exact y_iret C hw hS t6 h dX8_trim_14
theorem kX8_trim (l : Launch) (G : GG) (SB S : St) {xv1 : Int32} {x1 : Int} (xt1 : xv1.toInt = x1) {k : Int → St → Prop} (h : wX8_trim S x1 k) : CnI l yX8_trim cX8_trim 2 (some .int) 1 22 G (injR SB) [.ref (G.2.2 1042), .int xv1] S k :=
  cn_body (by decide +kernel) (Nat.le_of_ble_eq_true rfl) (fun p e s m args below meth c ls C hw hl => uX8_trim_0 C hw va_S.rf xt1 (lv_sub hl [0, 1] rfl) h)
set_option maxHeartbeats 4000000 in
set_option maxRecDepth 10000 in
theorem uX8_isLetter_30 {p : Program} {l : Launch} {e : Env} {s : State} {m : MethodId} {args : Array Value} {below : List Frame} {meth : Method} {c : Code} {G : GG} {SB : St} (C : Cx p s m args meth c G RX8 cX8_isLetter 2 (some .boolean)) {S : St} {H : Heap} {locs : List Loc} {ls : Array Slot}  {k : Int → Prop} (hw : Wd G ((injR SB) S) H) (hS : va_S (AG G) s.heap H locs) {xv1 : Int32} {x1 : Int} (xt1 : xv1.toInt = x1) (hl : lv_has ls 2 [(0, .ref (G.2.2 1042)), (1, .int xv1)])  (h : wX8_isLetter_30 S x1 k) : W p l e (rmF 0 0) s m args below meth c H locs 0 0 (MQ below (QcI G (injR SB) (fun r u => k r ∧ u = S)) args s 0 0 (AG G)) (F0 m 30 ls []) := by
  refine lv_aload_n C.1.1 C.1.2.1 dX8_isLetter_30 rfl (lv_at hl 0 rfl) ?_
  refine y_getA C fl_X8_7 hw (ocr SB) rfl (o := 1) rfl dX8_isLetter_31 ?_
  refine lv_iload_n C.1.1 C.1.2.1 dX8_isLetter_34 rfl (lv_at hl 1 rfl) ?_
  obtain ⟨b2, h⟩ := h
  refine y_bald C hw (acr_0 SB) xt1 b2 dX8_isLetter_35 (fun v2 t2 => ?_)
  refine y_bipush C dX8_isLetter_36 ⟨by decide, by decide⟩ (fun v3 t3 => ?_)
  refine y_icmp_lt C t2 t3 dX8_isLetter_38 (tgt := 56) (by decide) (fun c4 => ?_) (fun c4 => ?_)
  · have h := h.1 c4
    refine y_iconst C dX8_isLetter_56 ⟨by decide, by decide⟩ (fun v5 t5 => ?_)
    exact y_zret C hw hS t5 (Or.inl rfl) ⟨h, rfl⟩ dX8_isLetter_57
  · have h := h.2 c4
    refine lv_aload_n C.1.1 C.1.2.1 dX8_isLetter_41 rfl (lv_at hl 0 rfl) ?_
    refine y_getA C fl_X8_7 hw (ocr SB) rfl (o := 1) rfl dX8_isLetter_42 ?_
    refine lv_iload_n C.1.1 C.1.2.1 dX8_isLetter_45 rfl (lv_at hl 1 rfl) ?_
    obtain ⟨b7, h⟩ := h
    refine y_bald C hw (acr_0 SB) xt1 b7 dX8_isLetter_46 (fun v7 t7 => ?_)
    refine y_bipush C dX8_isLetter_47 ⟨by decide, by decide⟩ (fun v8 t8 => ?_)
    refine y_icmp_gt C t7 t8 dX8_isLetter_49 (tgt := 56) (by decide) (fun c9 => ?_) (fun c9 => ?_)
    · have h := h.1 c9
      refine y_iconst C dX8_isLetter_56 ⟨by decide, by decide⟩ (fun v10 t10 => ?_)
      exact y_zret C hw hS t10 (Or.inl rfl) ⟨h, rfl⟩ dX8_isLetter_57
    · have h := h.2 c9
      refine y_iconst C dX8_isLetter_52 ⟨by decide, by decide⟩ (fun v11 t11 => ?_)
      refine lv_goto (tgt := 57) C.1.1 C.1.2.1 dX8_isLetter_53 (by decide) ?_
      exact y_zret C hw hS t11 (Or.inr rfl) ⟨h, rfl⟩ dX8_isLetter_57
set_option maxHeartbeats 4000000 in
set_option maxRecDepth 10000 in
theorem uX8_isLetter_0 {p : Program} {l : Launch} {e : Env} {s : State} {m : MethodId} {args : Array Value} {below : List Frame} {meth : Method} {c : Code} {G : GG} {SB : St} (C : Cx p s m args meth c G RX8 cX8_isLetter 2 (some .boolean)) {S : St} {H : Heap} {locs : List Loc} {ls : Array Slot}  {k : Int → Prop} (hw : Wd G ((injR SB) S) H) (hS : va_S (AG G) s.heap H locs) {xv1 : Int32} {x1 : Int} (xt1 : xv1.toInt = x1) (hl : lv_has ls 2 [(0, .ref (G.2.2 1042)), (1, .int xv1)])  (h : wX8_isLetter_0 S x1 k) : W p l e (rmF 0 0) s m args below meth c H locs 0 0 (MQ below (QcI G (injR SB) (fun r u => k r ∧ u = S)) args s 0 0 (AG G)) (F0 m 0 ls []) := by
  refine lv_iload_n C.1.1 C.1.2.1 dX8_isLetter_0 rfl (lv_at hl 1 rfl) ?_
  refine lv_aload_n C.1.1 C.1.2.1 dX8_isLetter_1 rfl (lv_at hl 0 rfl) ?_
  refine y_getI C fl_X8_161 hw (ocr SB) rfl dX8_isLetter_2 (fun v1 t1 => ?_)
  refine y_icmp_ge C xt1 t1 dX8_isLetter_5 (tgt := 56) (by decide) (fun c2 => ?_) (fun c2 => ?_)
  · have h := h.1 c2
    refine y_iconst C dX8_isLetter_56 ⟨by decide, by decide⟩ (fun v3 t3 => ?_)
    exact y_zret C hw hS t3 (Or.inl rfl) ⟨h, rfl⟩ dX8_isLetter_57
  · have h := h.2 c2
    refine lv_aload_n C.1.1 C.1.2.1 dX8_isLetter_8 rfl (lv_at hl 0 rfl) ?_
    refine y_getA C fl_X8_7 hw (ocr SB) rfl (o := 1) rfl dX8_isLetter_9 ?_
    refine lv_iload_n C.1.1 C.1.2.1 dX8_isLetter_12 rfl (lv_at hl 1 rfl) ?_
    obtain ⟨b5, h⟩ := h
    refine y_bald C hw (acr_0 SB) xt1 b5 dX8_isLetter_13 (fun v5 t5 => ?_)
    refine y_bipush C dX8_isLetter_14 ⟨by decide, by decide⟩ (fun v6 t6 => ?_)
    refine y_icmp_lt C t5 t6 dX8_isLetter_16 (tgt := 30) (by decide) (fun c7 => ?_) (fun c7 => ?_)
    · have h := h.1 c7
      exact uX8_isLetter_30 C hw hS xt1 (lv_sub hl [0, 1] rfl)  h
    · have h := h.2 c7
      refine lv_aload_n C.1.1 C.1.2.1 dX8_isLetter_19 rfl (lv_at hl 0 rfl) ?_
      refine y_getA C fl_X8_7 hw (ocr SB) rfl (o := 1) rfl dX8_isLetter_20 ?_
      refine lv_iload_n C.1.1 C.1.2.1 dX8_isLetter_23 rfl (lv_at hl 1 rfl) ?_
      obtain ⟨b9, h⟩ := h
      refine y_bald C hw (acr_0 SB) xt1 b9 dX8_isLetter_24 (fun v9 t9 => ?_)
      refine y_bipush C dX8_isLetter_25 ⟨by decide, by decide⟩ (fun v10 t10 => ?_)
      refine y_icmp_le C t9 t10 dX8_isLetter_27 (tgt := 52) (by decide) (fun c11 => ?_) (fun c11 => ?_)
      · have h := h.1 c11
        refine y_iconst C dX8_isLetter_52 ⟨by decide, by decide⟩ (fun v12 t12 => ?_)
        refine lv_goto (tgt := 57) C.1.1 C.1.2.1 dX8_isLetter_53 (by decide) ?_
        exact y_zret C hw hS t12 (Or.inr rfl) ⟨h, rfl⟩ dX8_isLetter_57
      · have h := h.2 c11
        exact uX8_isLetter_30 C hw hS xt1 (lv_sub hl [0, 1] rfl)  h
theorem kX8_isLetter (l : Launch) (G : GG) (SB S : St) {xv1 : Int32} {x1 : Int} (xt1 : xv1.toInt = x1) {k : Int → Prop} (h : wX8_isLetter S x1 k) : CnI l yX8_isLetter cX8_isLetter 2 (some .boolean) 0 0 G (injR SB) [.ref (G.2.2 1042), .int xv1] S (fun r u => k r ∧ u = S) :=
  cn_body (by decide +kernel) (Nat.le_of_ble_eq_true rfl) (fun p e s m args below meth c ls C hw hl => uX8_isLetter_0 C hw va_S.rf xt1 (lv_sub hl [0, 1] rfl) h)
set_option maxHeartbeats 4000000 in
set_option maxRecDepth 10000 in
theorem uX8_isFigure_0 {p : Program} {l : Launch} {e : Env} {s : State} {m : MethodId} {args : Array Value} {below : List Frame} {meth : Method} {c : Code} {G : GG} {SB : St} (C : Cx p s m args meth c G RX8 cX8_isFigure 2 (some .boolean)) {S : St} {H : Heap} {locs : List Loc} {ls : Array Slot}  {k : Int → Prop} (hw : Wd G ((injR SB) S) H) (hS : va_S (AG G) s.heap H locs) {xv1 : Int32} {x1 : Int} (xt1 : xv1.toInt = x1) (hl : lv_has ls 2 [(0, .ref (G.2.2 1042)), (1, .int xv1)])  (h : wX8_isFigure_0 S x1 k) : W p l e (rmF 0 0) s m args below meth c H locs 0 0 (MQ below (QcI G (injR SB) (fun r u => k r ∧ u = S)) args s 0 0 (AG G)) (F0 m 0 ls []) := by
  refine lv_iload_n C.1.1 C.1.2.1 dX8_isFigure_0 rfl (lv_at hl 1 rfl) ?_
  refine lv_aload_n C.1.1 C.1.2.1 dX8_isFigure_1 rfl (lv_at hl 0 rfl) ?_
  refine y_getI C fl_X8_161 hw (ocr SB) rfl dX8_isFigure_2 (fun v1 t1 => ?_)
  refine y_icmp_ge C xt1 t1 dX8_isFigure_5 (tgt := 34) (by decide) (fun c2 => ?_) (fun c2 => ?_)
  · have h := h.1 c2
    refine y_iconst C dX8_isFigure_34 ⟨by decide, by decide⟩ (fun v3 t3 => ?_)
    exact y_zret C hw hS t3 (Or.inl rfl) ⟨h, rfl⟩ dX8_isFigure_35
  · have h := h.2 c2
    refine lv_aload_n C.1.1 C.1.2.1 dX8_isFigure_8 rfl (lv_at hl 0 rfl) ?_
    refine y_getA C fl_X8_7 hw (ocr SB) rfl (o := 1) rfl dX8_isFigure_9 ?_
    refine lv_iload_n C.1.1 C.1.2.1 dX8_isFigure_12 rfl (lv_at hl 1 rfl) ?_
    obtain ⟨b5, h⟩ := h
    refine y_bald C hw (acr_0 SB) xt1 b5 dX8_isFigure_13 (fun v5 t5 => ?_)
    refine y_bipush C dX8_isFigure_14 ⟨by decide, by decide⟩ (fun v6 t6 => ?_)
    refine y_icmp_lt C t5 t6 dX8_isFigure_16 (tgt := 34) (by decide) (fun c7 => ?_) (fun c7 => ?_)
    · have h := h.1 c7
      refine y_iconst C dX8_isFigure_34 ⟨by decide, by decide⟩ (fun v8 t8 => ?_)
      exact y_zret C hw hS t8 (Or.inl rfl) ⟨h, rfl⟩ dX8_isFigure_35
    · have h := h.2 c7
      refine lv_aload_n C.1.1 C.1.2.1 dX8_isFigure_19 rfl (lv_at hl 0 rfl) ?_
      refine y_getA C fl_X8_7 hw (ocr SB) rfl (o := 1) rfl dX8_isFigure_20 ?_
      refine lv_iload_n C.1.1 C.1.2.1 dX8_isFigure_23 rfl (lv_at hl 1 rfl) ?_
      obtain ⟨b10, h⟩ := h
      refine y_bald C hw (acr_0 SB) xt1 b10 dX8_isFigure_24 (fun v10 t10 => ?_)
      refine y_bipush C dX8_isFigure_25 ⟨by decide, by decide⟩ (fun v11 t11 => ?_)
      refine y_icmp_gt C t10 t11 dX8_isFigure_27 (tgt := 34) (by decide) (fun c12 => ?_) (fun c12 => ?_)
      · have h := h.1 c12
        refine y_iconst C dX8_isFigure_34 ⟨by decide, by decide⟩ (fun v13 t13 => ?_)
        exact y_zret C hw hS t13 (Or.inl rfl) ⟨h, rfl⟩ dX8_isFigure_35
      · have h := h.2 c12
        refine y_iconst C dX8_isFigure_30 ⟨by decide, by decide⟩ (fun v14 t14 => ?_)
        refine lv_goto (tgt := 35) C.1.1 C.1.2.1 dX8_isFigure_31 (by decide) ?_
        exact y_zret C hw hS t14 (Or.inr rfl) ⟨h, rfl⟩ dX8_isFigure_35
theorem kX8_isFigure (l : Launch) (G : GG) (SB S : St) {xv1 : Int32} {x1 : Int} (xt1 : xv1.toInt = x1) {k : Int → Prop} (h : wX8_isFigure S x1 k) : CnI l yX8_isFigure cX8_isFigure 2 (some .boolean) 0 0 G (injR SB) [.ref (G.2.2 1042), .int xv1] S (fun r u => k r ∧ u = S) :=
  cn_body (by decide +kernel) (Nat.le_of_ble_eq_true rfl) (fun p e s m args below meth c ls C hw hl => uX8_isFigure_0 C hw va_S.rf xt1 (lv_sub hl [0, 1] rfl) h)
set_option maxHeartbeats 4000000 in
set_option maxRecDepth 10000 in
theorem uX8_next_39 {p : Program} {l : Launch} {e : Env} {s : State} {m : MethodId} {args : Array Value} {below : List Frame} {meth : Method} {c : Code} {G : GG} {SB : St} (C : Cx p s m args meth c G RX8 cX8_next 4 none) {S : St} {H : Heap} {locs : List Loc} {ls : Array Slot} {P0 : St → Prop} {k : St → Prop} (hw : Wd G ((injR SB) S) H) (hS : va_S (AG G) s.heap H locs)  (hl : lv_has ls 4 [(0, .ref (G.2.2 1042))]) (hP0 : ∀ {H : Heap} {locs : List Loc} {ls : Array Slot} {Sy : St} , Wd G ((injR SB) Sy) H → va_S (AG G) s.heap H locs → lv_has ls 4 [(0, .ref (G.2.2 1042))] → P0 Sy → W p l e (rmF 1 21) s m args below meth c H locs 0 0 (MQ below (QcV G (injR SB) k) args s 0 0 (AG G)) (F0 m 0 ls [])) (h : wX8_next_39 S P0 k) : W p l e (rmF 1 21) s m args below meth c H locs 0 0 (MQ below (QcV G (injR SB) k) args s 0 0 (AG G)) (F0 m 39 ls []) := by
  refine lv_aload_n C.1.1 C.1.2.1 dX8_next_39 rfl (lv_at hl 0 rfl) ?_
  refine lv_dup C.1.1 C.1.2.1 dX8_next_40 rfl ?_
  refine y_getI C fl_X8_169 hw (ocr SB) rfl dX8_next_41 (fun v1 t1 => ?_)
  refine y_iconst C dX8_next_44 ⟨by decide, by decide⟩ (fun v2 t2 => ?_)
  refine y_iadd C t1 t2 dX8_next_45 (fun v3 t3 => ?_)
  obtain ⟨S_4, e4⟩ : ∃ z : St, z = up S 0 4 (w32 (S 0 4 + 1)) := ⟨_, rfl⟩
  have h := h S_4 e4
  refine y_putI C fl_X8_169 fp_8_4 hw hS (ocr SB) rfl t3 dX8_next_46 (fun H locs hw hS => ?_)
  have hw : Wd G ((injR SB) S_4) H := by rw [e4]; exact hw
  refine lv_goto (tgt := 0) C.1.1 C.1.2.1 dX8_next_49 (by decide) ?_
  exact hP0  hw hS (lv_sub hl [0] rfl) h
set_option maxHeartbeats 4000000 in
set_option maxRecDepth 10000 in
theorem uX8_next_127 {p : Program} {l : Launch} {e : Env} {s : State} {m : MethodId} {args : Array Value} {below : List Frame} {meth : Method} {c : Code} {G : GG} {SB : St} (C : Cx p s m args meth c G RX8 cX8_next 4 none) {S : St} {H : Heap} {locs : List Loc} {ls : Array Slot} {P105 : Int → St → Prop} {k : St → Prop} (hw : Wd G ((injR SB) S) H) (hS : va_S (AG G) s.heap H locs) {xv2 : Int32} {x2 : Int} (xt2 : xv2.toInt = x2) (hl : lv_has ls 4 [(0, .ref (G.2.2 1042)), (2, .int xv2)]) (hP105 : ∀ {H : Heap} {locs : List Loc} {ls : Array Slot} {Sy : St} {yv2 : Int32} {y2 : Int}, yv2.toInt = y2 → Wd G ((injR SB) Sy) H → va_S (AG G) s.heap H locs → lv_has ls 4 [(0, .ref (G.2.2 1042)), (2, .int yv2)] → P105 y2 Sy → W p l e (rmF 1 21) s m args below meth c H locs 0 0 (MQ below (QcV G (injR SB) k) args s 0 0 (AG G)) (F0 m 105 ls [])) (h : wX8_next_127 S x2 P105 k) : W p l e (rmF 1 21) s m args below meth c H locs 0 0 (MQ below (QcV G (injR SB) k) args s 0 0 (AG G)) (F0 m 127 ls []) := by
  refine lv_aload_n C.1.1 C.1.2.1 dX8_next_127 rfl (lv_at hl 0 rfl) ?_
  refine lv_aload_n C.1.1 C.1.2.1 dX8_next_128 rfl (lv_at hl 0 rfl) ?_
  refine y_getJ C fl_X8_182 hw (ocr SB) rfl dX8_next_129 (fun v1 t1 => ?_)
  refine y_bipush C dX8_next_132 ⟨by decide, by decide⟩ (fun v2 t2 => ?_)
  refine y_lshl C t1 t2 dX8_next_134 (fun v3 t3 => ?_)
  refine lv_aload_n C.1.1 C.1.2.1 dX8_next_135 rfl (lv_at hl 0 rfl) ?_
  refine y_getA C fl_X8_7 hw (ocr SB) rfl (o := 1) rfl dX8_next_136 ?_
  refine lv_aload_n C.1.1 C.1.2.1 dX8_next_139 rfl (lv_at hl 0 rfl) ?_
  refine y_getI C fl_X8_169 hw (ocr SB) rfl dX8_next_140 (fun v5 t5 => ?_)
  obtain ⟨b6, h⟩ := h
  refine y_bald C hw (acr_0 SB) t5 b6 dX8_next_143 (fun v6 t6 => ?_)
  refine y_i2l C t6 dX8_next_144 (fun v7 t7 => ?_)
  refine y_lor C t3 t7 dX8_next_145 (fun v8 t8 => ?_)
  obtain ⟨S_9, e9⟩ : ∃ z : St, z = up S 0 7 (or64 (shl64 (S 0 7) 8) (S 1 (S 0 4))) := ⟨_, rfl⟩
  have h := h S_9 e9
  refine y_putJ C fl_X8_182 fp_8_7 hw hS (ocr SB) rfl t8 dX8_next_146 (fun H locs hw hS => ?_)
  have hw : Wd G ((injR SB) S_9) H := by rw [e9]; exact hw
  refine lv_aload_n C.1.1 C.1.2.1 dX8_next_149 rfl (lv_at hl 0 rfl) ?_
  refine lv_dup C.1.1 C.1.2.1 dX8_next_150 rfl ?_
  refine y_getI C fl_X8_169 hw (ocr SB) rfl dX8_next_151 (fun v10 t10 => ?_)
  refine y_iconst C dX8_next_154 ⟨by decide, by decide⟩ (fun v11 t11 => ?_)
  refine y_iadd C t10 t11 dX8_next_155 (fun v12 t12 => ?_)
  obtain ⟨S_13, e13⟩ : ∃ z : St, z = up S_9 0 4 (w32 (S_9 0 4 + 1)) := ⟨_, rfl⟩
  have h := h S_13 e13
  refine y_putI C fl_X8_169 fp_8_4 hw hS (ocr SB) rfl t12 dX8_next_156 (fun H locs hw hS => ?_)
  have hw : Wd G ((injR SB) S_13) H := by rw [e13]; exact hw
  obtain ⟨x_14, e14⟩ : ∃ z : Int, z = w32 (x2 + 1) := ⟨_, rfl⟩
  have h := h x_14 e14
  obtain ⟨v14, t14, g14⟩ : ∃ z : Int32, z.toInt = x_14 ∧ xv2 + Int32.ofInt 1 = z := ⟨_, (ti_inc xt2 ⟨by decide, by decide⟩).trans e14.symm, rfl⟩
  refine lv_iinc (v := v14) (lv' := [(2, .int v14), (0, .ref (G.2.2 1042))]) C.1.1 C.1.2.1 dX8_next_159 hl (k := 1) rfl g14 (by decide) rfl (fun ls hl => ?_)
  refine lv_goto (tgt := 105) C.1.1 C.1.2.1 dX8_next_162 (by decide) ?_
  exact hP105 t14 hw hS (lv_sub hl [1, 0] rfl) h
set_option maxHeartbeats 4000000 in
set_option maxRecDepth 10000 in
theorem uX8_next_222 {p : Program} {l : Launch} {e : Env} {s : State} {m : MethodId} {args : Array Value} {below : List Frame} {meth : Method} {c : Code} {G : GG} {SB : St} (C : Cx p s m args meth c G RX8 cX8_next 4 none) {S : St} {H : Heap} {locs : List Loc} {ls : Array Slot} {P182 : Int → St → Prop} {k : St → Prop} (hw : Wd G ((injR SB) S) H) (hS : va_S (AG G) s.heap H locs) {xv3 : Int32} {x3 : Int} (xt3 : xv3.toInt = x3) {sv1 : Int32} {s1 : Int} (st1 : sv1.toInt = s1) (hl : lv_has ls 4 [(0, .ref (G.2.2 1042)), (3, .int xv3)]) (hP182 : ∀ {H : Heap} {locs : List Loc} {ls : Array Slot} {Sy : St} {yv3 : Int32} {y3 : Int}, yv3.toInt = y3 → Wd G ((injR SB) Sy) H → va_S (AG G) s.heap H locs → lv_has ls 4 [(0, .ref (G.2.2 1042)), (3, .int yv3)] → P182 y3 Sy → W p l e (rmF 1 21) s m args below meth c H locs 0 0 (MQ below (QcV G (injR SB) k) args s 0 0 (AG G)) (F0 m 182 ls [])) (h : wX8_next_222 S x3 s1 P182 k) : W p l e (rmF 1 21) s m args below meth c H locs 0 0 (MQ below (QcV G (injR SB) k) args s 0 0 (AG G)) (F0 m 222 ls [.int sv1, .ref (G.2.2 1042)]) := by
  obtain ⟨S_1, e1⟩ : ∃ z : St, z = up S 0 5 s1 := ⟨_, rfl⟩
  have h := h S_1 e1
  refine y_putI C fl_X8_175 fp_8_5 hw hS (ocr SB) rfl st1 dX8_next_222 (fun H locs hw hS => ?_)
  have hw : Wd G ((injR SB) S_1) H := by rw [e1]; exact hw
  obtain ⟨x_2, e2⟩ : ∃ z : Int, z = w32 (x3 + 1) := ⟨_, rfl⟩
  have h := h x_2 e2
  obtain ⟨v2, t2, g2⟩ : ∃ z : Int32, z.toInt = x_2 ∧ xv3 + Int32.ofInt 1 = z := ⟨_, (ti_inc xt3 ⟨by decide, by decide⟩).trans e2.symm, rfl⟩
  refine lv_iinc (v := v2) (lv' := [(3, .int v2), (0, .ref (G.2.2 1042))]) C.1.1 C.1.2.1 dX8_next_225 hl (k := 1) rfl g2 (by decide) rfl (fun ls hl => ?_)
  refine lv_goto (tgt := 182) C.1.1 C.1.2.1 dX8_next_228 (by decide) ?_
  exact hP182 t2 hw hS (lv_sub hl [1, 0] rfl) h
set_option maxHeartbeats 4000000 in
set_option maxRecDepth 10000 in
theorem uX8_next_182_b {p : Program} {l : Launch} {e : Env} {s : State} {m : MethodId} {args : Array Value} {below : List Frame} {meth : Method} {c : Code} {G : GG} {SB : St} (C : Cx p s m args meth c G RX8 cX8_next 4 none) {S : St} {H : Heap} {locs : List Loc} {ls : Array Slot}  {P182 : Int → St → Prop} {k : St → Prop} (hw : Wd G ((injR SB) S) H) (hS : va_S (AG G) s.heap H locs) {xv3 : Int32} {x3 : Int} (xt3 : xv3.toInt = x3) (hl : lv_has ls 4 [(0, .ref (G.2.2 1042)), (3, .int xv3)])  (hP182 : ∀ {H : Heap} {locs : List Loc} {ls : Array Slot} {Sy : St} {yv3 : Int32} {y3 : Int}, yv3.toInt = y3 → Wd G ((injR SB) Sy) H → va_S (AG G) s.heap H locs → lv_has ls 4 [(0, .ref (G.2.2 1042)), (3, .int yv3)] → P182 y3 Sy → W p l e (rmF 1 21) s m args below meth c H locs 0 0 (MQ below (QcV G (injR SB) k) args s 0 0 (AG G)) (F0 m 182 ls [])) (h : wX8_next_182_b S x3 P182 k) : W p l e (rmF 1 21) s m args below meth c H locs 0 0 (MQ below (QcV G (injR SB) k) args s 0 0 (AG G)) (F0 m 182 ls []) := by
  refine lv_iload_n C.1.1 C.1.2.1 dX8_next_182 rfl (lv_at hl 1 rfl) ?_
  refine y_bipush C dX8_next_183 ⟨by decide, by decide⟩ (fun v1 t1 => ?_)
  refine y_icmp_ge C xt3 t1 dX8_next_185 (tgt := 231) (by decide) (fun c2 => ?_) (fun c2 => ?_)
  · have h := h.1 c2
    refine lv_goto (tgt := 355) C.1.1 C.1.2.1 dX8_next_231 (by decide) ?_
    exact y_vret C hw hS h dX8_next_355
  · have h := h.2 c2
    refine lv_aload_n C.1.1 C.1.2.1 dX8_next_188 rfl (lv_at hl 0 rfl) ?_
    refine y_getI C fl_X8_175 hw (ocr SB) rfl dX8_next_189 (fun v3 t3 => ?_)
    refine y_iconst C dX8_next_192 ⟨by decide, by decide⟩ (fun v4 t4 => ?_)
    refine y_icmp_ne C t3 t4 dX8_next_193 (tgt := 231) (by decide) (fun c5 => ?_) (fun c5 => ?_)
    · have h := h.1 c5
      refine lv_goto (tgt := 355) C.1.1 C.1.2.1 dX8_next_231 (by decide) ?_
      exact y_vret C hw hS h dX8_next_355
    · have h := h.2 c5
      refine lv_aload_n C.1.1 C.1.2.1 dX8_next_196 rfl (lv_at hl 0 rfl) ?_
      refine lv_aload_n C.1.1 C.1.2.1 dX8_next_197 rfl (lv_at hl 0 rfl) ?_
      refine y_getA C fl_X8_41 hw (ocr SB) rfl (o := 2) rfl dX8_next_198 ?_
      refine lv_iload_n C.1.1 C.1.2.1 dX8_next_201 rfl (lv_at hl 1 rfl) ?_
      obtain ⟨b7, h⟩ := h
      refine y_lald C hw (acr_3 SB) xt3 b7 dX8_next_202 (fun v7 t7 => ?_)
      refine lv_aload_n C.1.1 C.1.2.1 dX8_next_203 rfl (lv_at hl 0 rfl) ?_
      refine y_getJ C fl_X8_182 hw (ocr SB) rfl dX8_next_204 (fun v8 t8 => ?_)
      refine y_lcmp C t7 t8 dX8_next_207 (fun v9 t9 => ?_)
      refine y_if_ne C t9 dX8_next_208 (tgt := 218) (by decide) (fun c10 => ?_) (fun c10 => ?_)
      · have c10 := cmp_ne.mp c10
        have h := h.1 c10
        refine lv_aload_n C.1.1 C.1.2.1 dX8_next_218 rfl (lv_at hl 0 rfl) ?_
        refine y_getI C fl_X8_175 hw (ocr SB) rfl dX8_next_219 (fun v11 t11 => ?_)
        exact uX8_next_222 C hw hS xt3 t11 (lv_sub hl [0, 1] rfl) hP182 h
      · have c10 := cmp_eq.mp c10
        have h := h.2 c10
        refine y_bipush C dX8_next_211 ⟨by decide, by decide⟩ (fun v12 t12 => ?_)
        refine lv_iload_n C.1.1 C.1.2.1 dX8_next_213 rfl (lv_at hl 1 rfl) ?_
        refine y_iadd C t12 xt3 dX8_next_214 (fun v13 t13 => ?_)
        refine lv_goto (tgt := 222) C.1.1 C.1.2.1 dX8_next_215 (by decide) ?_
        exact uX8_next_222 C hw hS xt3 t13 (lv_sub hl [0, 1] rfl) hP182 h
set_option maxHeartbeats 4000000 in
set_option maxRecDepth 10000 in
theorem uX8_next_182 {p : Program} {l : Launch} {e : Env} {s : State} {m : MethodId} {args : Array Value} {below : List Frame} {meth : Method} {c : Code} {G : GG} {SB : St} (C : Cx p s m args meth c G RX8 cX8_next 4 none) {S : St} {H : Heap} {locs : List Loc} {ls : Array Slot}  {k : St → Prop} (hw : Wd G ((injR SB) S) H) (hS : va_S (AG G) s.heap H locs) {xv3 : Int32} {x3 : Int} (xt3 : xv3.toInt = x3) (hl : lv_has ls 4 [(0, .ref (G.2.2 1042)), (3, .int xv3)])  (h : wX8_next_182 S x3 k) : W p l e (rmF 1 21) s m args below meth c H locs 0 0 (MQ below (QcV G (injR SB) k) args s 0 0 (AG G)) (F0 m 182 ls []) := by
  have key : ∀ (n : Nat) {H : Heap} {locs : List Loc} {ls : Array Slot} {S : St} {xv3 : Int32} {x3 : Int}, xv3.toInt = x3 → Wd G ((injR SB) S) H → va_S (AG G) s.heap H locs → lv_has ls 4 [(0, .ref (G.2.2 1042)), (3, .int xv3)] → itP (fun (P : Int × St → Prop) (a : Int × St) => wX8_next_182_b a.2 a.1 (fun b0 b1 => P (b0, b1)) k) n (x3, S) → W p l e (rmF 1 21) s m args below meth c H locs 0 0 (MQ below (QcV G (injR SB) k) args s 0 0 (AG G)) (F0 m 182 ls []) := by
    intro n
    induction n with
    | zero => intro H locs ls S xv3 x3 xt3 hw hS hl h; exact h.elim
    | succ n ih =>
      intro H locs ls S xv3 x3 xt3 hw hS hl h
      exact uX8_next_182_b C hw hS xt3 hl  (P182 := fun b0 b1 => itP _ n (b0, b1)) (fun q0 hw hS hl h => ih q0 hw hS hl h) h
  obtain ⟨n, hn⟩ := h
  exact key n xt3 hw hS hl hn
set_option maxHeartbeats 4000000 in
set_option maxRecDepth 10000 in
theorem uX8_next_177 {p : Program} {l : Launch} {e : Env} {s : State} {m : MethodId} {args : Array Value} {below : List Frame} {meth : Method} {c : Code} {G : GG} {SB : St} (C : Cx p s m args meth c G RX8 cX8_next 4 none) {S : St} {H : Heap} {locs : List Loc} {ls : Array Slot}  {k : St → Prop} (hw : Wd G ((injR SB) S) H) (hS : va_S (AG G) s.heap H locs) {sv1 : Int32} {s1 : Int} (st1 : sv1.toInt = s1) (hl : lv_has ls 4 [(0, .ref (G.2.2 1042))])  (h : wX8_next_177 S s1 k) : W p l e (rmF 1 21) s m args below meth c H locs 0 0 (MQ below (QcV G (injR SB) k) args s 0 0 (AG G)) (F0 m 177 ls [.int sv1, .ref (G.2.2 1042)]) := by
  obtain ⟨S_1, e1⟩ : ∃ z : St, z = up S 0 5 s1 := ⟨_, rfl⟩
  have h := h S_1 e1
  refine y_putI C fl_X8_175 fp_8_5 hw hS (ocr SB) rfl st1 dX8_next_177 (fun H locs hw hS => ?_)
  have hw : Wd G ((injR SB) S_1) H := by rw [e1]; exact hw
  refine y_iconst C dX8_next_180 ⟨by decide, by decide⟩ (fun v2 t2 => ?_)
  refine lv_istore_n (lv' := [(3, .int v2), (0, .ref (G.2.2 1042))]) C.1.1 C.1.2.1 dX8_next_181 rfl hl (by decide) rfl (fun ls hl => ?_)
  exact uX8_next_182 C hw hS t2 (lv_sub hl [1, 0] rfl)  h
set_option maxHeartbeats 4000000 in
set_option maxRecDepth 10000 in
theorem uX8_next_105_b {p : Program} {l : Launch} {e : Env} {s : State} {m : MethodId} {args : Array Value} {below : List Frame} {meth : Method} {c : Code} {G : GG} {SB : St} (C : Cx p s m args meth c G RX8 cX8_next 4 none) {S : St} {H : Heap} {locs : List Loc} {ls : Array Slot}  {P105 : Int → St → Prop} {k : St → Prop} (hw : Wd G ((injR SB) S) H) (hS : va_S (AG G) s.heap H locs) {xv2 : Int32} {x2 : Int} (xt2 : xv2.toInt = x2) (hl : lv_has ls 4 [(0, .ref (G.2.2 1042)), (2, .int xv2)])  (hP105 : ∀ {H : Heap} {locs : List Loc} {ls : Array Slot} {Sy : St} {yv2 : Int32} {y2 : Int}, yv2.toInt = y2 → Wd G ((injR SB) Sy) H → va_S (AG G) s.heap H locs → lv_has ls 4 [(0, .ref (G.2.2 1042)), (2, .int yv2)] → P105 y2 Sy → W p l e (rmF 1 21) s m args below meth c H locs 0 0 (MQ below (QcV G (injR SB) k) args s 0 0 (AG G)) (F0 m 105 ls [])) (h : wX8_next_105_b S x2 P105 k) : W p l e (rmF 1 21) s m args below meth c H locs 0 0 (MQ below (QcV G (injR SB) k) args s 0 0 (AG G)) (F0 m 105 ls []) := by
  refine lv_aload_n C.1.1 C.1.2.1 dX8_next_105 rfl (lv_at hl 0 rfl) ?_
  refine lv_aload_n C.1.1 C.1.2.1 dX8_next_106 rfl (lv_at hl 0 rfl) ?_
  refine y_getI C fl_X8_169 hw (ocr SB) rfl dX8_next_107 (fun v1 t1 => ?_)
  refine y_cVIp C (As := [.int v1]) (rest := []) ml_X8_178 (kX8_isLetter l G SB S t1 h) (ocr SB) (T := TX8) (N := 60) rfl (by decide) ⟨(Nat.le_of_ble_eq_true rfl), (Nat.le_of_ble_eq_true rfl)⟩ hl.1 rfl rfl (Nat.le_of_ble_eq_true rfl) hw hS dX8_next_110 (fun v2 x_2 H locs t2 h hw hS => ?_)
  refine y_if_ne C t2 dX8_next_113 (tgt := 127) (by decide) (fun c3 => ?_) (fun c3 => ?_)
  · have h := h.1 c3
    exact uX8_next_127 C hw hS xt2 (lv_sub hl [0, 1] rfl) hP105 h
  · have h := h.2 c3
    refine lv_aload_n C.1.1 C.1.2.1 dX8_next_116 rfl (lv_at hl 0 rfl) ?_
    refine lv_aload_n C.1.1 C.1.2.1 dX8_next_117 rfl (lv_at hl 0 rfl) ?_
    refine y_getI C fl_X8_169 hw (ocr SB) rfl dX8_next_118 (fun v4 t4 => ?_)
    refine y_cVIp C (As := [.int v4]) (rest := []) ml_X8_186 (kX8_isFigure l G SB S t4 h) (ocr SB) (T := TX8) (N := 60) rfl (by decide) ⟨(Nat.le_of_ble_eq_true rfl), (Nat.le_of_ble_eq_true rfl)⟩ hl.1 rfl rfl (Nat.le_of_ble_eq_true rfl) hw hS dX8_next_121 (fun v5 x_5 H locs t5 h hw hS => ?_)
    refine y_if_eq C t5 dX8_next_124 (tgt := 165) (by decide) (fun c6 => ?_) (fun c6 => ?_)
    · have h := h.1 c6
      refine lv_aload_n C.1.1 C.1.2.1 dX8_next_165 rfl (lv_at hl 0 rfl) ?_
      refine lv_iload_n C.1.1 C.1.2.1 dX8_next_166 rfl (lv_at hl 1 rfl) ?_
      refine y_bipush C dX8_next_167 ⟨by decide, by decide⟩ (fun v7 t7 => ?_)
      refine y_icmp_le C xt2 t7 dX8_next_169 (tgt := 176) (by decide) (fun c8 => ?_) (fun c8 => ?_)
      · have h := h.1 c8
        refine y_iconst C dX8_next_176 ⟨by decide, by decide⟩ (fun v9 t9 => ?_)
        exact uX8_next_177 C hw hS t9 (lv_sub hl [0] rfl)  h
      · have h := h.2 c8
        refine y_iconst C dX8_next_172 ⟨by decide, by decide⟩ (fun v10 t10 => ?_)
        refine lv_goto (tgt := 177) C.1.1 C.1.2.1 dX8_next_173 (by decide) ?_
        exact uX8_next_177 C hw hS t10 (lv_sub hl [0] rfl)  h
    · have h := h.2 c6
      exact uX8_next_127 C hw hS xt2 (lv_sub hl [0, 1] rfl) hP105 h
set_option maxHeartbeats 4000000 in
set_option maxRecDepth 10000 in
theorem uX8_next_105 {p : Program} {l : Launch} {e : Env} {s : State} {m : MethodId} {args : Array Value} {below : List Frame} {meth : Method} {c : Code} {G : GG} {SB : St} (C : Cx p s m args meth c G RX8 cX8_next 4 none) {S : St} {H : Heap} {locs : List Loc} {ls : Array Slot}  {k : St → Prop} (hw : Wd G ((injR SB) S) H) (hS : va_S (AG G) s.heap H locs) {xv2 : Int32} {x2 : Int} (xt2 : xv2.toInt = x2) (hl : lv_has ls 4 [(0, .ref (G.2.2 1042)), (2, .int xv2)])  (h : wX8_next_105 S x2 k) : W p l e (rmF 1 21) s m args below meth c H locs 0 0 (MQ below (QcV G (injR SB) k) args s 0 0 (AG G)) (F0 m 105 ls []) := by
  have key : ∀ (n : Nat) {H : Heap} {locs : List Loc} {ls : Array Slot} {S : St} {xv2 : Int32} {x2 : Int}, xv2.toInt = x2 → Wd G ((injR SB) S) H → va_S (AG G) s.heap H locs → lv_has ls 4 [(0, .ref (G.2.2 1042)), (2, .int xv2)] → itP (fun (P : Int × St → Prop) (a : Int × St) => wX8_next_105_b a.2 a.1 (fun b0 b1 => P (b0, b1)) k) n (x2, S) → W p l e (rmF 1 21) s m args below meth c H locs 0 0 (MQ below (QcV G (injR SB) k) args s 0 0 (AG G)) (F0 m 105 ls []) := by
    intro n
    induction n with
    | zero => intro H locs ls S xv2 x2 xt2 hw hS hl h; exact h.elim
    | succ n ih =>
      intro H locs ls S xv2 x2 xt2 hw hS hl h
      exact uX8_next_105_b C hw hS xt2 hl  (P105 := fun b0 b1 => itP _ n (b0, b1)) (fun q0 hw hS hl h => ih q0 hw hS hl h) h
  obtain ⟨n, hn⟩ := h
  exact key n xt2 hw hS hl hn
set_option maxHeartbeats 4000000 in
set_option maxRecDepth 10000 in
theorem uX8_next_342 {p : Program} {l : Launch} {e : Env} {s : State} {m : MethodId} {args : Array Value} {below : List Frame} {meth : Method} {c : Code} {G : GG} {SB : St} (C : Cx p s m args meth c G RX8 cX8_next 4 none) {S : St} {H : Heap} {locs : List Loc} {ls : Array Slot}  {k : St → Prop} (hw : Wd G ((injR SB) S) H) (hS : va_S (AG G) s.heap H locs) {sv1 : Int32} {s1 : Int} (st1 : sv1.toInt = s1) (hl : lv_has ls 4 [(0, .ref (G.2.2 1042))])  (h : wX8_next_342 S s1 k) : W p l e (rmF 1 21) s m args below meth c H locs 0 0 (MQ below (QcV G (injR SB) k) args s 0 0 (AG G)) (F0 m 342 ls [.int sv1, .ref (G.2.2 1042)]) := by
  obtain ⟨S_1, e1⟩ : ∃ z : St, z = up S 0 5 s1 := ⟨_, rfl⟩
  have h := h S_1 e1
  refine y_putI C fl_X8_175 fp_8_5 hw hS (ocr SB) rfl st1 dX8_next_342 (fun H locs hw hS => ?_)
  have hw : Wd G ((injR SB) S_1) H := by rw [e1]; exact hw
  refine lv_aload_n C.1.1 C.1.2.1 dX8_next_345 rfl (lv_at hl 0 rfl) ?_
  refine lv_dup C.1.1 C.1.2.1 dX8_next_346 rfl ?_
  refine y_getI C fl_X8_169 hw (ocr SB) rfl dX8_next_347 (fun v2 t2 => ?_)
  refine y_iconst C dX8_next_350 ⟨by decide, by decide⟩ (fun v3 t3 => ?_)
  refine y_iadd C t2 t3 dX8_next_351 (fun v4 t4 => ?_)
  obtain ⟨S_5, e5⟩ : ∃ z : St, z = up S_1 0 4 (w32 (S_1 0 4 + 1)) := ⟨_, rfl⟩
  have h := h S_5 e5
  refine y_putI C fl_X8_169 fp_8_4 hw hS (ocr SB) rfl t4 dX8_next_352 (fun H locs hw hS => ?_)
  have hw : Wd G ((injR SB) S_5) H := by rw [e5]; exact hw
  exact y_vret C hw hS h dX8_next_355
set_option maxHeartbeats 4000000 in
set_option maxRecDepth 10000 in
theorem uX8_next_331 {p : Program} {l : Launch} {e : Env} {s : State} {m : MethodId} {args : Array Value} {below : List Frame} {meth : Method} {c : Code} {G : GG} {SB : St} (C : Cx p s m args meth c G RX8 cX8_next 4 none) {S : St} {H : Heap} {locs : List Loc} {ls : Array Slot}  {k : St → Prop} (hw : Wd G ((injR SB) S) H) (hS : va_S (AG G) s.heap H locs) {xv1 : Int32} {x1 : Int} (xt1 : xv1.toInt = x1) {sv0 : Int32} {s0 : Int} (st0 : sv0.toInt = s0) (hl : lv_has ls 4 [(0, .ref (G.2.2 1042)), (1, .int xv1)])  (h : wX8_next_331 S x1 s0 k) : W p l e (rmF 1 21) s m args below meth c H locs 0 0 (MQ below (QcV G (injR SB) k) args s 0 0 (AG G)) (F0 m 331 ls [.int sv0]) := by
  refine lv_istore_n (lv' := [(2, .int sv0), (0, .ref (G.2.2 1042)), (1, .int xv1)]) C.1.1 C.1.2.1 dX8_next_331 rfl hl (by decide) rfl (fun ls hl => ?_)
  refine lv_aload_n C.1.1 C.1.2.1 dX8_next_332 rfl (lv_at hl 1 rfl) ?_
  refine lv_iload_n C.1.1 C.1.2.1 dX8_next_333 rfl (lv_at hl 0 rfl) ?_
  refine y_if_eq C st0 dX8_next_334 (tgt := 341) (by decide) (fun c1 => ?_) (fun c1 => ?_)
  · have h := h.1 c1
    refine y_iconst C dX8_next_341 ⟨by decide, by decide⟩ (fun v2 t2 => ?_)
    exact uX8_next_342 C hw hS t2 (lv_sub hl [1] rfl)  h
  · have h := h.2 c1
    refine lv_iload_n C.1.1 C.1.2.1 dX8_next_337 rfl (lv_at hl 2 rfl) ?_
    refine lv_goto (tgt := 342) C.1.1 C.1.2.1 dX8_next_338 (by decide) ?_
    exact uX8_next_342 C hw hS xt1 (lv_sub hl [1] rfl)  h
set_option maxHeartbeats 4000000 in
set_option maxRecDepth 10000 in
theorem uX8_next_326 {p : Program} {l : Launch} {e : Env} {s : State} {m : MethodId} {args : Array Value} {below : List Frame} {meth : Method} {c : Code} {G : GG} {SB : St} (C : Cx p s m args meth c G RX8 cX8_next 4 none) {S : St} {H : Heap} {locs : List Loc} {ls : Array Slot}  {k : St → Prop} (hw : Wd G ((injR SB) S) H) (hS : va_S (AG G) s.heap H locs) {xv1 : Int32} {x1 : Int} (xt1 : xv1.toInt = x1) (hl : lv_has ls 4 [(0, .ref (G.2.2 1042)), (1, .int xv1)])  (h : wX8_next_326 S x1 k) : W p l e (rmF 1 21) s m args below meth c H locs 0 0 (MQ below (QcV G (injR SB) k) args s 0 0 (AG G)) (F0 m 326 ls []) := by
  refine y_iconst C dX8_next_326 ⟨by decide, by decide⟩ (fun v1 t1 => ?_)
  refine lv_goto (tgt := 331) C.1.1 C.1.2.1 dX8_next_327 (by decide) ?_
  exact uX8_next_331 C hw hS xt1 t1 (lv_sub hl [0, 1] rfl)  h
set_option maxHeartbeats 4000000 in
set_option maxRecDepth 10000 in
theorem uX8_next_52 {p : Program} {l : Launch} {e : Env} {s : State} {m : MethodId} {args : Array Value} {below : List Frame} {meth : Method} {c : Code} {G : GG} {SB : St} (C : Cx p s m args meth c G RX8 cX8_next 4 none) {S : St} {H : Heap} {locs : List Loc} {ls : Array Slot}  {k : St → Prop} (hw : Wd G ((injR SB) S) H) (hS : va_S (AG G) s.heap H locs)  (hl : lv_has ls 4 [(0, .ref (G.2.2 1042))])  (h : wX8_next_52 S k) : W p l e (rmF 1 21) s m args below meth c H locs 0 0 (MQ below (QcV G (injR SB) k) args s 0 0 (AG G)) (F0 m 52 ls []) := by
  refine lv_aload_n C.1.1 C.1.2.1 dX8_next_52 rfl (lv_at hl 0 rfl) ?_
  refine lv_aload_n C.1.1 C.1.2.1 dX8_next_53 rfl (lv_at hl 0 rfl) ?_
  refine y_getI C fl_X8_169 hw (ocr SB) rfl dX8_next_54 (fun v1 t1 => ?_)
  obtain ⟨S_2, e2⟩ : ∃ z : St, z = up S 0 6 (S 0 4) := ⟨_, rfl⟩
  have h := h S_2 e2
  refine y_putI C fl_X8_172 fp_8_6 hw hS (ocr SB) rfl t1 dX8_next_57 (fun H locs hw hS => ?_)
  have hw : Wd G ((injR SB) S_2) H := by rw [e2]; exact hw
  refine lv_aload_n C.1.1 C.1.2.1 dX8_next_60 rfl (lv_at hl 0 rfl) ?_
  refine y_getI C fl_X8_169 hw (ocr SB) rfl dX8_next_61 (fun v3 t3 => ?_)
  refine lv_aload_n C.1.1 C.1.2.1 dX8_next_64 rfl (lv_at hl 0 rfl) ?_
  refine y_getI C fl_X8_161 hw (ocr SB) rfl dX8_next_65 (fun v4 t4 => ?_)
  refine y_icmp_ne C t3 t4 dX8_next_68 (tgt := 77) (by decide) (fun c5 => ?_) (fun c5 => ?_)
  · have h := h.1 c5
    refine lv_aload_n C.1.1 C.1.2.1 dX8_next_77 rfl (lv_at hl 0 rfl) ?_
    refine y_getA C fl_X8_7 hw (ocr SB) rfl (o := 1) rfl dX8_next_78 ?_
    refine lv_aload_n C.1.1 C.1.2.1 dX8_next_81 rfl (lv_at hl 0 rfl) ?_
    refine y_getI C fl_X8_169 hw (ocr SB) rfl dX8_next_82 (fun v7 t7 => ?_)
    obtain ⟨b8, h⟩ := h
    refine y_bald C hw (acr_0 SB) t7 b8 dX8_next_85 (fun v8 t8 => ?_)
    obtain ⟨x_9, e9⟩ : ∃ z : Int, z = S_2 1 (S_2 0 4) := ⟨_, rfl⟩
    have h := h x_9 e9
    have t9 := t8.trans e9.symm
    refine lv_istore_n (lv' := [(1, .int v8), (0, .ref (G.2.2 1042))]) C.1.1 C.1.2.1 dX8_next_86 rfl hl (by decide) rfl (fun ls hl => ?_)
    refine lv_aload_n C.1.1 C.1.2.1 dX8_next_87 rfl (lv_at hl 1 rfl) ?_
    refine lv_aload_n C.1.1 C.1.2.1 dX8_next_88 rfl (lv_at hl 1 rfl) ?_
    refine y_getI C fl_X8_169 hw (ocr SB) rfl dX8_next_89 (fun v10 t10 => ?_)
    refine y_cVIp C (As := [.int v10]) (rest := []) ml_X8_178 (kX8_isLetter l G SB S_2 t10 h) (ocr SB) (T := TX8) (N := 60) rfl (by decide) ⟨(Nat.le_of_ble_eq_true rfl), (Nat.le_of_ble_eq_true rfl)⟩ hl.1 rfl rfl (Nat.le_of_ble_eq_true rfl) hw hS dX8_next_92 (fun v11 x_11 H locs t11 h hw hS => ?_)
    refine y_if_eq C t11 dX8_next_95 (tgt := 234) (by decide) (fun c12 => ?_) (fun c12 => ?_)
    · have h := h.1 c12
      refine lv_aload_n C.1.1 C.1.2.1 dX8_next_234 rfl (lv_at hl 1 rfl) ?_
      refine lv_aload_n C.1.1 C.1.2.1 dX8_next_235 rfl (lv_at hl 1 rfl) ?_
      refine y_getI C fl_X8_169 hw (ocr SB) rfl dX8_next_236 (fun v13 t13 => ?_)
      refine y_cVIp C (As := [.int v13]) (rest := []) ml_X8_186 (kX8_isFigure l G SB S_2 t13 h) (ocr SB) (T := TX8) (N := 60) rfl (by decide) ⟨(Nat.le_of_ble_eq_true rfl), (Nat.le_of_ble_eq_true rfl)⟩ hl.1 rfl rfl (Nat.le_of_ble_eq_true rfl) hw hS dX8_next_239 (fun v14 x_14 H locs t14 h hw hS => ?_)
      refine y_if_eq C t14 dX8_next_242 (tgt := 272) (by decide) (fun c15 => ?_) (fun c15 => ?_)
      · have h := h.1 c15
        refine lv_iload_n C.1.1 C.1.2.1 dX8_next_272 rfl (lv_at hl 0 rfl) ?_
        refine y_bipush C dX8_next_273 ⟨by decide, by decide⟩ (fun v16 t16 => ?_)
        refine y_icmp_eq C t9 t16 dX8_next_275 (tgt := 326) (by decide) (fun c17 => ?_) (fun c17 => ?_)
        · have h := h.1 c17
          exact uX8_next_326 C hw hS t9 (lv_sub hl [1, 0] rfl)  h
        · have h := h.2 c17
          refine lv_iload_n C.1.1 C.1.2.1 dX8_next_278 rfl (lv_at hl 0 rfl) ?_
          refine y_bipush C dX8_next_279 ⟨by decide, by decide⟩ (fun v18 t18 => ?_)
          refine y_icmp_eq C t9 t18 dX8_next_281 (tgt := 326) (by decide) (fun c19 => ?_) (fun c19 => ?_)
          · have h := h.1 c19
            exact uX8_next_326 C hw hS t9 (lv_sub hl [1, 0] rfl)  h
          · have h := h.2 c19
            refine lv_iload_n C.1.1 C.1.2.1 dX8_next_284 rfl (lv_at hl 0 rfl) ?_
            refine y_bipush C dX8_next_285 ⟨by decide, by decide⟩ (fun v20 t20 => ?_)
            refine y_icmp_eq C t9 t20 dX8_next_287 (tgt := 326) (by decide) (fun c21 => ?_) (fun c21 => ?_)
            · have h := h.1 c21
              exact uX8_next_326 C hw hS t9 (lv_sub hl [1, 0] rfl)  h
            · have h := h.2 c21
              refine lv_iload_n C.1.1 C.1.2.1 dX8_next_290 rfl (lv_at hl 0 rfl) ?_
              refine y_bipush C dX8_next_291 ⟨by decide, by decide⟩ (fun v22 t22 => ?_)
              refine y_icmp_eq C t9 t22 dX8_next_293 (tgt := 326) (by decide) (fun c23 => ?_) (fun c23 => ?_)
              · have h := h.1 c23
                exact uX8_next_326 C hw hS t9 (lv_sub hl [1, 0] rfl)  h
              · have h := h.2 c23
                refine lv_iload_n C.1.1 C.1.2.1 dX8_next_296 rfl (lv_at hl 0 rfl) ?_
                refine y_bipush C dX8_next_297 ⟨by decide, by decide⟩ (fun v24 t24 => ?_)
                refine y_icmp_eq C t9 t24 dX8_next_299 (tgt := 326) (by decide) (fun c25 => ?_) (fun c25 => ?_)
                · have h := h.1 c25
                  exact uX8_next_326 C hw hS t9 (lv_sub hl [1, 0] rfl)  h
                · have h := h.2 c25
                  refine lv_iload_n C.1.1 C.1.2.1 dX8_next_302 rfl (lv_at hl 0 rfl) ?_
                  refine y_bipush C dX8_next_303 ⟨by decide, by decide⟩ (fun v26 t26 => ?_)
                  refine y_icmp_eq C t9 t26 dX8_next_305 (tgt := 326) (by decide) (fun c27 => ?_) (fun c27 => ?_)
                  · have h := h.1 c27
                    exact uX8_next_326 C hw hS t9 (lv_sub hl [1, 0] rfl)  h
                  · have h := h.2 c27
                    refine lv_iload_n C.1.1 C.1.2.1 dX8_next_308 rfl (lv_at hl 0 rfl) ?_
                    refine y_bipush C dX8_next_309 ⟨by decide, by decide⟩ (fun v28 t28 => ?_)
                    refine y_icmp_eq C t9 t28 dX8_next_311 (tgt := 326) (by decide) (fun c29 => ?_) (fun c29 => ?_)
                    · have h := h.1 c29
                      exact uX8_next_326 C hw hS t9 (lv_sub hl [1, 0] rfl)  h
                    · have h := h.2 c29
                      refine lv_iload_n C.1.1 C.1.2.1 dX8_next_314 rfl (lv_at hl 0 rfl) ?_
                      refine y_bipush C dX8_next_315 ⟨by decide, by decide⟩ (fun v30 t30 => ?_)
                      refine y_icmp_eq C t9 t30 dX8_next_317 (tgt := 326) (by decide) (fun c31 => ?_) (fun c31 => ?_)
                      · have h := h.1 c31
                        exact uX8_next_326 C hw hS t9 (lv_sub hl [1, 0] rfl)  h
                      · have h := h.2 c31
                        refine lv_iload_n C.1.1 C.1.2.1 dX8_next_320 rfl (lv_at hl 0 rfl) ?_
                        refine y_bipush C dX8_next_321 ⟨by decide, by decide⟩ (fun v32 t32 => ?_)
                        refine y_icmp_ne C t9 t32 dX8_next_323 (tgt := 330) (by decide) (fun c33 => ?_) (fun c33 => ?_)
                        · have h := h.1 c33
                          refine y_iconst C dX8_next_330 ⟨by decide, by decide⟩ (fun v34 t34 => ?_)
                          exact uX8_next_331 C hw hS t9 t34 (lv_sub hl [1, 0] rfl)  h
                        · have h := h.2 c33
                          exact uX8_next_326 C hw hS t9 (lv_sub hl [1, 0] rfl)  h
      · have h := h.2 c15
        refine lv_aload_n C.1.1 C.1.2.1 dX8_next_245 rfl (lv_at hl 1 rfl) ?_
        refine lv_iload_n C.1.1 C.1.2.1 dX8_next_246 rfl (lv_at hl 0 rfl) ?_
        refine y_bipush C dX8_next_247 ⟨by decide, by decide⟩ (fun v35 t35 => ?_)
        refine y_isub C t9 t35 dX8_next_249 (fun v36 t36 => ?_)
        refine y_i2l C t36 dX8_next_250 (fun v37 t37 => ?_)
        obtain ⟨S_38, e38⟩ : ∃ z : St, z = up S_2 0 7 (w32 (x_9 - 48)) := ⟨_, rfl⟩
        have h := h S_38 e38
        refine y_putJ C fl_X8_182 fp_8_7 hw hS (ocr SB) rfl t37 dX8_next_251 (fun H locs hw hS => ?_)
        have hw : Wd G ((injR SB) S_38) H := by rw [e38]; exact hw
        refine lv_aload_n C.1.1 C.1.2.1 dX8_next_254 rfl (lv_at hl 1 rfl) ?_
        refine y_iconst C dX8_next_255 ⟨by decide, by decide⟩ (fun v39 t39 => ?_)
        obtain ⟨S_40, e40⟩ : ∃ z : St, z = up S_38 0 5 3 := ⟨_, rfl⟩
        have h := h S_40 e40
        refine y_putI C fl_X8_175 fp_8_5 hw hS (ocr SB) rfl t39 dX8_next_256 (fun H locs hw hS => ?_)
        have hw : Wd G ((injR SB) S_40) H := by rw [e40]; exact hw
        refine lv_aload_n C.1.1 C.1.2.1 dX8_next_259 rfl (lv_at hl 1 rfl) ?_
        refine lv_dup C.1.1 C.1.2.1 dX8_next_260 rfl ?_
        refine y_getI C fl_X8_169 hw (ocr SB) rfl dX8_next_261 (fun v41 t41 => ?_)
        refine y_iconst C dX8_next_264 ⟨by decide, by decide⟩ (fun v42 t42 => ?_)
        refine y_iadd C t41 t42 dX8_next_265 (fun v43 t43 => ?_)
        obtain ⟨S_44, e44⟩ : ∃ z : St, z = up S_40 0 4 (w32 (S_40 0 4 + 1)) := ⟨_, rfl⟩
        have h := h S_44 e44
        refine y_putI C fl_X8_169 fp_8_4 hw hS (ocr SB) rfl t43 dX8_next_266 (fun H locs hw hS => ?_)
        have hw : Wd G ((injR SB) S_44) H := by rw [e44]; exact hw
        refine lv_goto (tgt := 355) C.1.1 C.1.2.1 dX8_next_269 (by decide) ?_
        exact y_vret C hw hS h dX8_next_355
    · have h := h.2 c12
      refine lv_aload_n C.1.1 C.1.2.1 dX8_next_98 rfl (lv_at hl 1 rfl) ?_
      refine y_lconst0 C dX8_next_99 (fun v45 t45 => ?_)
      obtain ⟨S_46, e46⟩ : ∃ z : St, z = up S_2 0 7 0 := ⟨_, rfl⟩
      have h := h S_46 e46
      refine y_putJ C fl_X8_182 fp_8_7 hw hS (ocr SB) rfl t45 dX8_next_100 (fun H locs hw hS => ?_)
      have hw : Wd G ((injR SB) S_46) H := by rw [e46]; exact hw
      refine y_iconst C dX8_next_103 ⟨by decide, by decide⟩ (fun v47 t47 => ?_)
      refine lv_istore_n (lv' := [(2, .int v47), (1, .int v8), (0, .ref (G.2.2 1042))]) C.1.1 C.1.2.1 dX8_next_104 rfl hl (by decide) rfl (fun ls hl => ?_)
      exact uX8_next_105 C hw hS t47 (lv_sub hl [2, 0] rfl)  h
  · have h := h.2 c5
    refine lv_aload_n C.1.1 C.1.2.1 dX8_next_71 rfl (lv_at hl 0 rfl) ?_
    refine y_iconst C dX8_next_72 ⟨by decide, by decide⟩ (fun v48 t48 => ?_)
    obtain ⟨S_49, e49⟩ : ∃ z : St, z = up S_2 0 5 0 := ⟨_, rfl⟩
    have h := h S_49 e49
    refine y_putI C fl_X8_175 fp_8_5 hw hS (ocr SB) rfl t48 dX8_next_73 (fun H locs hw hS => ?_)
    have hw : Wd G ((injR SB) S_49) H := by rw [e49]; exact hw
    exact y_vret C hw hS h dX8_next_76
set_option maxHeartbeats 4000000 in
set_option maxRecDepth 10000 in
theorem uX8_next_0_b {p : Program} {l : Launch} {e : Env} {s : State} {m : MethodId} {args : Array Value} {below : List Frame} {meth : Method} {c : Code} {G : GG} {SB : St} (C : Cx p s m args meth c G RX8 cX8_next 4 none) {S : St} {H : Heap} {locs : List Loc} {ls : Array Slot}  {P0 : St → Prop} {k : St → Prop} (hw : Wd G ((injR SB) S) H) (hS : va_S (AG G) s.heap H locs)  (hl : lv_has ls 4 [(0, .ref (G.2.2 1042))])  (hP0 : ∀ {H : Heap} {locs : List Loc} {ls : Array Slot} {Sy : St} , Wd G ((injR SB) Sy) H → va_S (AG G) s.heap H locs → lv_has ls 4 [(0, .ref (G.2.2 1042))] → P0 Sy → W p l e (rmF 1 21) s m args below meth c H locs 0 0 (MQ below (QcV G (injR SB) k) args s 0 0 (AG G)) (F0 m 0 ls [])) (h : wX8_next_0_b S P0 k) : W p l e (rmF 1 21) s m args below meth c H locs 0 0 (MQ below (QcV G (injR SB) k) args s 0 0 (AG G)) (F0 m 0 ls []) := by
  refine lv_aload_n C.1.1 C.1.2.1 dX8_next_0 rfl (lv_at hl 0 rfl) ?_
  refine y_getI C fl_X8_169 hw (ocr SB) rfl dX8_next_1 (fun v1 t1 => ?_)
  refine lv_aload_n C.1.1 C.1.2.1 dX8_next_4 rfl (lv_at hl 0 rfl) ?_
  refine y_getI C fl_X8_161 hw (ocr SB) rfl dX8_next_5 (fun v2 t2 => ?_)
  refine y_icmp_ge C t1 t2 dX8_next_8 (tgt := 52) (by decide) (fun c3 => ?_) (fun c3 => ?_)
  · have h := h.1 c3
    exact uX8_next_52 C hw hS  (lv_sub hl [0] rfl)  h
  · have h := h.2 c3
    refine lv_aload_n C.1.1 C.1.2.1 dX8_next_11 rfl (lv_at hl 0 rfl) ?_
    refine y_getA C fl_X8_7 hw (ocr SB) rfl (o := 1) rfl dX8_next_12 ?_
    refine lv_aload_n C.1.1 C.1.2.1 dX8_next_15 rfl (lv_at hl 0 rfl) ?_
    refine y_getI C fl_X8_169 hw (ocr SB) rfl dX8_next_16 (fun v5 t5 => ?_)
    obtain ⟨b6, h⟩ := h
    refine y_bald C hw (acr_0 SB) t5 b6 dX8_next_19 (fun v6 t6 => ?_)
    refine y_bipush C dX8_next_20 ⟨by decide, by decide⟩ (fun v7 t7 => ?_)
    refine y_icmp_eq C t6 t7 dX8_next_22 (tgt := 39) (by decide) (fun c8 => ?_) (fun c8 => ?_)
    · have h := h.1 c8
      exact uX8_next_39 C hw hS  (lv_sub hl [0] rfl) hP0 h
    · have h := h.2 c8
      refine lv_aload_n C.1.1 C.1.2.1 dX8_next_25 rfl (lv_at hl 0 rfl) ?_
      refine y_getA C fl_X8_7 hw (ocr SB) rfl (o := 1) rfl dX8_next_26 ?_
      refine lv_aload_n C.1.1 C.1.2.1 dX8_next_29 rfl (lv_at hl 0 rfl) ?_
      refine y_getI C fl_X8_169 hw (ocr SB) rfl dX8_next_30 (fun v10 t10 => ?_)
      obtain ⟨b11, h⟩ := h
      refine y_bald C hw (acr_0 SB) t10 b11 dX8_next_33 (fun v11 t11 => ?_)
      refine y_bipush C dX8_next_34 ⟨by decide, by decide⟩ (fun v12 t12 => ?_)
      refine y_icmp_ne C t11 t12 dX8_next_36 (tgt := 52) (by decide) (fun c13 => ?_) (fun c13 => ?_)
      · have h := h.1 c13
        exact uX8_next_52 C hw hS  (lv_sub hl [0] rfl)  h
      · have h := h.2 c13
        exact uX8_next_39 C hw hS  (lv_sub hl [0] rfl) hP0 h
set_option maxHeartbeats 4000000 in
set_option maxRecDepth 10000 in
theorem uX8_next_0 {p : Program} {l : Launch} {e : Env} {s : State} {m : MethodId} {args : Array Value} {below : List Frame} {meth : Method} {c : Code} {G : GG} {SB : St} (C : Cx p s m args meth c G RX8 cX8_next 4 none) {S : St} {H : Heap} {locs : List Loc} {ls : Array Slot}  {k : St → Prop} (hw : Wd G ((injR SB) S) H) (hS : va_S (AG G) s.heap H locs)  (hl : lv_has ls 4 [(0, .ref (G.2.2 1042))])  (h : wX8_next_0 S k) : W p l e (rmF 1 21) s m args below meth c H locs 0 0 (MQ below (QcV G (injR SB) k) args s 0 0 (AG G)) (F0 m 0 ls []) := by
  have key : ∀ (n : Nat) {H : Heap} {locs : List Loc} {ls : Array Slot} {S : St} , Wd G ((injR SB) S) H → va_S (AG G) s.heap H locs → lv_has ls 4 [(0, .ref (G.2.2 1042))] → itP (fun (P : St → Prop) (a : St) => wX8_next_0_b a (fun b0 => P (b0)) k) n (S) → W p l e (rmF 1 21) s m args below meth c H locs 0 0 (MQ below (QcV G (injR SB) k) args s 0 0 (AG G)) (F0 m 0 ls []) := by
    intro n
    induction n with
    | zero => intro H locs ls S hw hS hl h; exact h.elim
    | succ n ih =>
      intro H locs ls S hw hS hl h
      exact uX8_next_0_b C hw hS  hl  (P0 := fun b0 => itP _ n (b0)) (fun hw hS hl h => ih hw hS hl h) h
  obtain ⟨n, hn⟩ := h
  exact key n  hw hS hl hn
theorem kX8_next (l : Launch) (G : GG) (SB S : St)  {k : St → Prop} (h : wX8_next S k) : CnV l yX8_next cX8_next 4 none 1 21 G (injR SB) [.ref (G.2.2 1042)] S k :=
  cn_body (by decide +kernel) (Nat.le_of_ble_eq_true rfl) (fun p e s m args below meth c ls C hw hl => uX8_next_0 C hw va_S.rf  (lv_sub hl [0] rfl) h)
set_option maxHeartbeats 4000000 in
set_option maxRecDepth 10000 in
theorem uX8_goesOn_0 {p : Program} {l : Launch} {e : Env} {s : State} {m : MethodId} {args : Array Value} {below : List Frame} {meth : Method} {c : Code} {G : GG} {SB : St} (C : Cx p s m args meth c G RX8 cX8_goesOn 1 (some .boolean)) {S : St} {H : Heap} {locs : List Loc} {ls : Array Slot}  {k : Int → Prop} (hw : Wd G ((injR SB) S) H) (hS : va_S (AG G) s.heap H locs)  (hl : lv_has ls 1 [(0, .ref (G.2.2 1042))])  (h : wX8_goesOn_0 S k) : W p l e (rmF 0 0) s m args below meth c H locs 0 0 (MQ below (QcI G (injR SB) (fun r u => k r ∧ u = S)) args s 0 0 (AG G)) (F0 m 0 ls []) := by
  refine lv_aload_n C.1.1 C.1.2.1 dX8_goesOn_0 rfl (lv_at hl 0 rfl) ?_
  refine y_getI C fl_X8_189 hw (ocr SB) rfl dX8_goesOn_1 (fun v1 t1 => ?_)
  refine y_if_ne C t1 dX8_goesOn_4 (tgt := 11) (by decide) (fun c2 => ?_) (fun c2 => ?_)
  · have h := h.1 c2
    refine y_iconst C dX8_goesOn_11 ⟨by decide, by decide⟩ (fun v3 t3 => ?_)
    exact y_zret C hw hS t3 (Or.inl rfl) ⟨h, rfl⟩ dX8_goesOn_12
  · have h := h.2 c2
    refine y_iconst C dX8_goesOn_7 ⟨by decide, by decide⟩ (fun v4 t4 => ?_)
    refine lv_goto (tgt := 12) C.1.1 C.1.2.1 dX8_goesOn_8 (by decide) ?_
    exact y_zret C hw hS t4 (Or.inr rfl) ⟨h, rfl⟩ dX8_goesOn_12
theorem kX8_goesOn (l : Launch) (G : GG) (SB S : St)  {k : Int → Prop} (h : wX8_goesOn S k) : CnI l yX8_goesOn cX8_goesOn 1 (some .boolean) 0 0 G (injR SB) [.ref (G.2.2 1042)] S (fun r u => k r ∧ u = S) :=
  cn_body (by decide +kernel) (Nat.le_of_ble_eq_true rfl) (fun p e s m args below meth c ls C hw hl => uX8_goesOn_0 C hw va_S.rf  (lv_sub hl [0] rfl) h)
set_option maxHeartbeats 4000000 in
set_option maxRecDepth 10000 in
theorem uX8_fails_0 {p : Program} {l : Launch} {e : Env} {s : State} {m : MethodId} {args : Array Value} {below : List Frame} {meth : Method} {c : Code} {G : GG} {SB : St} (C : Cx p s m args meth c G RX8 cX8_fails 3 none) {S : St} {H : Heap} {locs : List Loc} {ls : Array Slot}  {k : St → Prop} (hw : Wd G ((injR SB) S) H) (hS : va_S (AG G) s.heap H locs) {xv1 : Int32} {x1 : Int} (xt1 : xv1.toInt = x1) {xv2 : Int32} {x2 : Int} (xt2 : xv2.toInt = x2) (hl : lv_has ls 3 [(0, .ref (G.2.2 1042)), (1, .int xv1), (2, .int xv2)])  (h : wX8_fails_0 S x1 x2 k) : W p l e (rmF 0 0) s m args below meth c H locs 0 0 (MQ below (QcV G (injR SB) k) args s 0 0 (AG G)) (F0 m 0 ls []) := by
  refine lv_aload_n C.1.1 C.1.2.1 dX8_fails_0 rfl (lv_at hl 0 rfl) ?_
  refine y_getI C fl_X8_189 hw (ocr SB) rfl dX8_fails_1 (fun v1 t1 => ?_)
  refine y_if_ne C t1 dX8_fails_4 (tgt := 17) (by decide) (fun c2 => ?_) (fun c2 => ?_)
  · have h := h.1 c2
    exact y_vret C hw hS h dX8_fails_17
  · have h := h.2 c2
    refine lv_aload_n C.1.1 C.1.2.1 dX8_fails_7 rfl (lv_at hl 0 rfl) ?_
    refine lv_iload_n C.1.1 C.1.2.1 dX8_fails_8 rfl (lv_at hl 1 rfl) ?_
    obtain ⟨S_3, e3⟩ : ∃ z : St, z = up S 0 8 x1 := ⟨_, rfl⟩
    have h := h S_3 e3
    refine y_putI C fl_X8_189 fp_8_8 hw hS (ocr SB) rfl xt1 dX8_fails_9 (fun H locs hw hS => ?_)
    have hw : Wd G ((injR SB) S_3) H := by rw [e3]; exact hw
    refine lv_aload_n C.1.1 C.1.2.1 dX8_fails_12 rfl (lv_at hl 0 rfl) ?_
    refine lv_iload_n C.1.1 C.1.2.1 dX8_fails_13 rfl (lv_at hl 2 rfl) ?_
    obtain ⟨S_4, e4⟩ : ∃ z : St, z = up S_3 0 9 x2 := ⟨_, rfl⟩
    have h := h S_4 e4
    refine y_putI C fl_X8_192 fp_8_9 hw hS (ocr SB) rfl xt2 dX8_fails_14 (fun H locs hw hS => ?_)
    have hw : Wd G ((injR SB) S_4) H := by rw [e4]; exact hw
    exact y_vret C hw hS h dX8_fails_17
theorem kX8_fails (l : Launch) (G : GG) (SB S : St) {xv1 : Int32} {x1 : Int} (xt1 : xv1.toInt = x1) {xv2 : Int32} {x2 : Int} (xt2 : xv2.toInt = x2) {k : St → Prop} (h : wX8_fails S x1 x2 k) : CnV l yX8_fails cX8_fails 3 none 0 0 G (injR SB) [.ref (G.2.2 1042), .int xv1, .int xv2] S k :=
  cn_body (by decide +kernel) (Nat.le_of_ble_eq_true rfl) (fun p e s m args below meth c ls C hw hl => uX8_fails_0 C hw va_S.rf xt1 xt2 (lv_sub hl [0, 1, 2] rfl) h)
set_option maxHeartbeats 4000000 in
set_option maxRecDepth 10000 in
theorem uX8_odd_14 {p : Program} {l : Launch} {e : Env} {s : State} {m : MethodId} {args : Array Value} {below : List Frame} {meth : Method} {c : Code} {G : GG} {SB : St} (C : Cx p s m args meth c G RX8 cX8_odd 1 none) {S : St} {H : Heap} {locs : List Loc} {ls : Array Slot}  {k : St → Prop} (hw : Wd G ((injR SB) S) H) (hS : va_S (AG G) s.heap H locs) {sv1 : Int32} {s1 : Int} (st1 : sv1.toInt = s1) (hl : lv_has ls 1 [(0, .ref (G.2.2 1042))])  (h : wX8_odd_14 S s1 k) : W p l e (rmF 1 22) s m args below meth c H locs 0 0 (MQ below (QcV G (injR SB) k) args s 0 0 (AG G)) (F0 m 14 ls [.int sv1, .ref (G.2.2 1042)]) := by
  refine lv_aload_n C.1.1 C.1.2.1 dX8_odd_14 rfl (lv_at hl 0 rfl) ?_
  refine y_getI C fl_X8_172 hw (ocr SB) rfl dX8_odd_15 (fun v1 t1 => ?_)
  refine y_cVV C (As := [.int sv1, .int v1]) (rest := []) ml_X8_195 (kX8_fails l G SB S st1 t1 h) (ocr SB) (T := TX8) (N := 60) rfl (by decide) ⟨(Nat.le_of_ble_eq_true rfl), (Nat.le_of_ble_eq_true rfl)⟩ hl.1 rfl rfl (Nat.le_of_ble_eq_true rfl) hw hS dX8_odd_18 (fun S_2 H locs h hw hS => ?_)
  exact y_vret C hw hS h dX8_odd_21
set_option maxHeartbeats 4000000 in
set_option maxRecDepth 10000 in
theorem uX8_odd_0 {p : Program} {l : Launch} {e : Env} {s : State} {m : MethodId} {args : Array Value} {below : List Frame} {meth : Method} {c : Code} {G : GG} {SB : St} (C : Cx p s m args meth c G RX8 cX8_odd 1 none) {S : St} {H : Heap} {locs : List Loc} {ls : Array Slot}  {k : St → Prop} (hw : Wd G ((injR SB) S) H) (hS : va_S (AG G) s.heap H locs)  (hl : lv_has ls 1 [(0, .ref (G.2.2 1042))])  (h : wX8_odd_0 S k) : W p l e (rmF 1 22) s m args below meth c H locs 0 0 (MQ below (QcV G (injR SB) k) args s 0 0 (AG G)) (F0 m 0 ls []) := by
  refine lv_aload_n C.1.1 C.1.2.1 dX8_odd_0 rfl (lv_at hl 0 rfl) ?_
  refine lv_aload_n C.1.1 C.1.2.1 dX8_odd_1 rfl (lv_at hl 0 rfl) ?_
  refine y_getI C fl_X8_175 hw (ocr SB) rfl dX8_odd_2 (fun v1 t1 => ?_)
  refine y_iconst C dX8_odd_5 ⟨by decide, by decide⟩ (fun v2 t2 => ?_)
  refine y_icmp_ne C t1 t2 dX8_odd_6 (tgt := 13) (by decide) (fun c3 => ?_) (fun c3 => ?_)
  · have h := h.1 c3
    refine y_iconst C dX8_odd_13 ⟨by decide, by decide⟩ (fun v4 t4 => ?_)
    exact uX8_odd_14 C hw hS t4 (lv_sub hl [0] rfl)  h
  · have h := h.2 c3
    refine y_iconst C dX8_odd_9 ⟨by decide, by decide⟩ (fun v5 t5 => ?_)
    refine lv_goto (tgt := 14) C.1.1 C.1.2.1 dX8_odd_10 (by decide) ?_
    exact uX8_odd_14 C hw hS t5 (lv_sub hl [0] rfl)  h
theorem kX8_odd (l : Launch) (G : GG) (SB S : St)  {k : St → Prop} (h : wX8_odd S k) : CnV l yX8_odd cX8_odd 1 none 1 22 G (injR SB) [.ref (G.2.2 1042)] S k :=
  cn_body (by decide +kernel) (Nat.le_of_ble_eq_true rfl) (fun p e s m args below meth c ls C hw hl => uX8_odd_0 C hw va_S.rf  (lv_sub hl [0] rfl) h)
set_option maxHeartbeats 4000000 in
set_option maxRecDepth 10000 in
theorem uX8_is_0 {p : Program} {l : Launch} {e : Env} {s : State} {m : MethodId} {args : Array Value} {below : List Frame} {meth : Method} {c : Code} {G : GG} {SB : St} (C : Cx p s m args meth c G RX8 cX8_is 2 (some .boolean)) {S : St} {H : Heap} {locs : List Loc} {ls : Array Slot}  {k : Int → Prop} (hw : Wd G ((injR SB) S) H) (hS : va_S (AG G) s.heap H locs) {xv1 : Int32} {x1 : Int} (xt1 : xv1.toInt = x1) (hl : lv_has ls 2 [(0, .ref (G.2.2 1042)), (1, .int xv1)])  (h : wX8_is_0 S x1 k) : W p l e (rmF 0 0) s m args below meth c H locs 0 0 (MQ below (QcI G (injR SB) (fun r u => k r ∧ u = S)) args s 0 0 (AG G)) (F0 m 0 ls []) := by
  refine lv_aload_n C.1.1 C.1.2.1 dX8_is_0 rfl (lv_at hl 0 rfl) ?_
  refine y_getI C fl_X8_189 hw (ocr SB) rfl dX8_is_1 (fun v1 t1 => ?_)
  refine y_if_ne C t1 dX8_is_4 (tgt := 19) (by decide) (fun c2 => ?_) (fun c2 => ?_)
  · have h := h.1 c2
    refine y_iconst C dX8_is_19 ⟨by decide, by decide⟩ (fun v3 t3 => ?_)
    exact y_zret C hw hS t3 (Or.inl rfl) ⟨h, rfl⟩ dX8_is_20
  · have h := h.2 c2
    refine lv_aload_n C.1.1 C.1.2.1 dX8_is_7 rfl (lv_at hl 0 rfl) ?_
    refine y_getI C fl_X8_175 hw (ocr SB) rfl dX8_is_8 (fun v4 t4 => ?_)
    refine lv_iload_n C.1.1 C.1.2.1 dX8_is_11 rfl (lv_at hl 1 rfl) ?_
    refine y_icmp_ne C t4 xt1 dX8_is_12 (tgt := 19) (by decide) (fun c5 => ?_) (fun c5 => ?_)
    · have h := h.1 c5
      refine y_iconst C dX8_is_19 ⟨by decide, by decide⟩ (fun v6 t6 => ?_)
      exact y_zret C hw hS t6 (Or.inl rfl) ⟨h, rfl⟩ dX8_is_20
    · have h := h.2 c5
      refine y_iconst C dX8_is_15 ⟨by decide, by decide⟩ (fun v7 t7 => ?_)
      refine lv_goto (tgt := 20) C.1.1 C.1.2.1 dX8_is_16 (by decide) ?_
      exact y_zret C hw hS t7 (Or.inr rfl) ⟨h, rfl⟩ dX8_is_20
theorem kX8_is (l : Launch) (G : GG) (SB S : St) {xv1 : Int32} {x1 : Int} (xt1 : xv1.toInt = x1) {k : Int → Prop} (h : wX8_is S x1 k) : CnI l yX8_is cX8_is 2 (some .boolean) 0 0 G (injR SB) [.ref (G.2.2 1042), .int xv1] S (fun r u => k r ∧ u = S) :=
  cn_body (by decide +kernel) (Nat.le_of_ble_eq_true rfl) (fun p e s m args below meth c ls C hw hl => uX8_is_0 C hw va_S.rf xt1 (lv_sub hl [0, 1] rfl) h)
set_option maxHeartbeats 4000000 in
set_option maxRecDepth 10000 in
theorem uX8_take_0 {p : Program} {l : Launch} {e : Env} {s : State} {m : MethodId} {args : Array Value} {below : List Frame} {meth : Method} {c : Code} {G : GG} {SB : St} (C : Cx p s m args meth c G RX8 cX8_take 2 none) {S : St} {H : Heap} {locs : List Loc} {ls : Array Slot}  {k : St → Prop} (hw : Wd G ((injR SB) S) H) (hS : va_S (AG G) s.heap H locs) {xv1 : Int32} {x1 : Int} (xt1 : xv1.toInt = x1) (hl : lv_has ls 2 [(0, .ref (G.2.2 1042)), (1, .int xv1)])  (h : wX8_take_0 S x1 k) : W p l e (rmF 2 44) s m args below meth c H locs 0 0 (MQ below (QcV G (injR SB) k) args s 0 0 (AG G)) (F0 m 0 ls []) := by
  refine lv_aload_n C.1.1 C.1.2.1 dX8_take_0 rfl (lv_at hl 0 rfl) ?_
  refine lv_iload_n C.1.1 C.1.2.1 dX8_take_1 rfl (lv_at hl 1 rfl) ?_
  refine y_cVIp C (As := [.int xv1]) (rest := []) ml_X8_199 (kX8_is l G SB S xt1 h) (ocr SB) (T := TX8) (N := 60) rfl (by decide) ⟨(Nat.le_of_ble_eq_true rfl), (Nat.le_of_ble_eq_true rfl)⟩ hl.1 rfl rfl (Nat.le_of_ble_eq_true rfl) hw hS dX8_take_2 (fun v1 x_1 H locs t1 h hw hS => ?_)
  refine y_if_eq C t1 dX8_take_5 (tgt := 15) (by decide) (fun c2 => ?_) (fun c2 => ?_)
  · have h := h.1 c2
    refine lv_aload_n C.1.1 C.1.2.1 dX8_take_15 rfl (lv_at hl 0 rfl) ?_
    refine y_cVV C (As := []) (rest := []) ml_X8_205 (kX8_odd l G SB S  h) (ocr SB) (T := TX8) (N := 60) rfl (by decide) ⟨(Nat.le_of_ble_eq_true rfl), (Nat.le_of_ble_eq_true rfl)⟩ hl.1 rfl rfl (Nat.le_of_ble_eq_true rfl) hw hS dX8_take_16 (fun S_3 H locs h hw hS => ?_)
    exact y_vret C hw hS h dX8_take_19
  · have h := h.2 c2
    refine lv_aload_n C.1.1 C.1.2.1 dX8_take_8 rfl (lv_at hl 0 rfl) ?_
    refine y_cVV C (As := []) (rest := []) ml_X8_202 (kX8_next l G SB S  h) (ocr SB) (T := TX8) (N := 60) rfl (by decide) ⟨(Nat.le_of_ble_eq_true rfl), (Nat.le_of_ble_eq_true rfl)⟩ hl.1 rfl rfl (Nat.le_of_ble_eq_true rfl) hw hS dX8_take_9 (fun S_4 H locs h hw hS => ?_)
    refine lv_goto (tgt := 19) C.1.1 C.1.2.1 dX8_take_12 (by decide) ?_
    exact y_vret C hw hS h dX8_take_19
theorem kX8_take (l : Launch) (G : GG) (SB S : St) {xv1 : Int32} {x1 : Int} (xt1 : xv1.toInt = x1) {k : St → Prop} (h : wX8_take S x1 k) : CnV l yX8_take cX8_take 2 none 2 44 G (injR SB) [.ref (G.2.2 1042), .int xv1] S k :=
  cn_body (by decide +kernel) (Nat.le_of_ble_eq_true rfl) (fun p e s m args below meth c ls C hw hl => uX8_take_0 C hw va_S.rf xt1 (lv_sub hl [0, 1] rfl) h)
set_option maxHeartbeats 4000000 in
set_option maxRecDepth 10000 in
theorem uX8_t_0 {p : Program} {l : Launch} {e : Env} {s : State} {m : MethodId} {args : Array Value} {below : List Frame} {meth : Method} {c : Code} {G : GG} {SB : St} (C : Cx p s m args meth c G RX8 cX8_t 2 (some .int)) {S : St} {H : Heap} {locs : List Loc} {ls : Array Slot}  {k : Int → Prop} (hw : Wd G ((injR SB) S) H) (hS : va_S (AG G) s.heap H locs) {xv1 : Int32} {x1 : Int} (xt1 : xv1.toInt = x1) (hl : lv_has ls 2 [(0, .ref (G.2.2 1042)), (1, .int xv1)])  (h : wX8_t_0 S x1 k) : W p l e (rmF 0 0) s m args below meth c H locs 0 0 (MQ below (QcI G (injR SB) (fun r u => k r ∧ u = S)) args s 0 0 (AG G)) (F0 m 0 ls []) := by
  refine y_bipush C dX8_t_0 ⟨by decide, by decide⟩ (fun v1 t1 => ?_)
  refine lv_aload_n C.1.1 C.1.2.1 dX8_t_2 rfl (lv_at hl 0 rfl) ?_
  refine y_getI C fl_X8_208 hw (ocr SB) rfl dX8_t_3 (fun v2 t2 => ?_)
  refine y_imul C t1 t2 dX8_t_6 (fun v3 t3 => ?_)
  refine lv_iload_n C.1.1 C.1.2.1 dX8_t_7 rfl (lv_at hl 1 rfl) ?_
  refine y_iadd C t3 xt1 dX8_t_8 (fun v4 t4 => ?_)
  exact y_iret C hw hS t4 ⟨h, rfl⟩ dX8_t_9
theorem kX8_t (l : Launch) (G : GG) (SB S : St) {xv1 : Int32} {x1 : Int} (xt1 : xv1.toInt = x1) {k : Int → Prop} (h : wX8_t S x1 k) : CnI l yX8_t cX8_t 2 (some .int) 0 0 G (injR SB) [.ref (G.2.2 1042), .int xv1] S (fun r u => k r ∧ u = S) :=
  cn_body (by decide +kernel) (Nat.le_of_ble_eq_true rfl) (fun p e s m args below meth c ls C hw hl => uX8_t_0 C hw va_S.rf xt1 (lv_sub hl [0, 1] rfl) h)
set_option maxHeartbeats 4000000 in
set_option maxRecDepth 10000 in
theorem uX8_m_0 {p : Program} {l : Launch} {e : Env} {s : State} {m : MethodId} {args : Array Value} {below : List Frame} {meth : Method} {c : Code} {G : GG} {SB : St} (C : Cx p s m args meth c G RX8 cX8_m 2 (some .int)) {S : St} {H : Heap} {locs : List Loc} {ls : Array Slot}  {k : Int → Prop} (hw : Wd G ((injR SB) S) H) (hS : va_S (AG G) s.heap H locs) {xv1 : Int32} {x1 : Int} (xt1 : xv1.toInt = x1) (hl : lv_has ls 2 [(0, .ref (G.2.2 1042)), (1, .int xv1)])  (h : wX8_m_0 S x1 k) : W p l e (rmF 0 0) s m args below meth c H locs 0 0 (MQ below (QcI G (injR SB) (fun r u => k r ∧ u = S)) args s 0 0 (AG G)) (F0 m 0 ls []) := by
  refine y_bipush C dX8_m_0 ⟨by decide, by decide⟩ (fun v1 t1 => ?_)
  refine lv_aload_n C.1.1 C.1.2.1 dX8_m_2 rfl (lv_at hl 0 rfl) ?_
  refine y_getI C fl_X8_208 hw (ocr SB) rfl dX8_m_3 (fun v2 t2 => ?_)
  refine y_imul C t1 t2 dX8_m_6 (fun v3 t3 => ?_)
  refine lv_iload_n C.1.1 C.1.2.1 dX8_m_7 rfl (lv_at hl 1 rfl) ?_
  refine y_iadd C t3 xt1 dX8_m_8 (fun v4 t4 => ?_)
  exact y_iret C hw hS t4 ⟨h, rfl⟩ dX8_m_9
theorem kX8_m (l : Launch) (G : GG) (SB S : St) {xv1 : Int32} {x1 : Int} (xt1 : xv1.toInt = x1) {k : Int → Prop} (h : wX8_m S x1 k) : CnI l yX8_m cX8_m 2 (some .int) 0 0 G (injR SB) [.ref (G.2.2 1042), .int xv1] S (fun r u => k r ∧ u = S) :=
  cn_body (by decide +kernel) (Nat.le_of_ble_eq_true rfl) (fun p e s m args below meth c ls C hw hl => uX8_m_0 C hw va_S.rf xt1 (lv_sub hl [0, 1] rfl) h)
set_option maxHeartbeats 4000000 in
set_option maxRecDepth 10000 in
theorem uX8_isType_0 {p : Program} {l : Launch} {e : Env} {s : State} {m : MethodId} {args : Array Value} {below : List Frame} {meth : Method} {c : Code} {G : GG} {SB : St} (C : Cx p s m args meth c G RX8 cX8_isType 2 (some .boolean)) {S : St} {H : Heap} {locs : List Loc} {ls : Array Slot}  {k : Int → St → Prop} (hw : Wd G ((injR SB) S) H) (hS : va_S (AG G) s.heap H locs) {xv1 : Int32} {x1 : Int} (xt1 : xv1.toInt = x1) (hl : lv_has ls 2 [(0, .ref (G.2.2 1042)), (1, .int xv1)])  (h : wX8_isType_0 S x1 k) : W p l e (rmF 1 22) s m args below meth c H locs 0 0 (MQ below (QcI G (injR SB) k) args s 0 0 (AG G)) (F0 m 0 ls []) := by
  refine lv_aload_n C.1.1 C.1.2.1 dX8_isType_0 rfl (lv_at hl 0 rfl) ?_
  refine lv_aload_n C.1.1 C.1.2.1 dX8_isType_1 rfl (lv_at hl 0 rfl) ?_
  refine y_getI C fl_X8_211 hw (ocr SB) rfl dX8_isType_2 (fun v1 t1 => ?_)
  obtain ⟨S_2, e2⟩ : ∃ z : St, z = up S 0 10 (S 0 11) := ⟨_, rfl⟩
  have h := h S_2 e2
  refine y_putI C fl_X8_208 fp_8_10 hw hS (ocr SB) rfl t1 dX8_isType_5 (fun H locs hw hS => ?_)
  have hw : Wd G ((injR SB) S_2) H := by rw [e2]; exact hw
  refine lv_iload_n C.1.1 C.1.2.1 dX8_isType_8 rfl (lv_at hl 1 rfl) ?_
  refine y_iconst C dX8_isType_9 ⟨by decide, by decide⟩ (fun v3 t3 => ?_)
  refine lv_aload_n C.1.1 C.1.2.1 dX8_isType_10 rfl (lv_at hl 0 rfl) ?_
  refine y_getA C fl_X8_45 hw (ocr SB) rfl (o := 3) rfl dX8_isType_11 ?_
  refine lv_aload_n C.1.1 C.1.2.1 dX8_isType_14 rfl (lv_at hl 0 rfl) ?_
  refine y_getI C fl_X8_208 hw (ocr SB) rfl dX8_isType_15 (fun v5 t5 => ?_)
  obtain ⟨b6, h⟩ := h
  refine y_iald C hw (acr_12 SB) t5 b6 dX8_isType_18 (fun v6 t6 => ?_)
  refine y_iconst C dX8_isType_19 ⟨by decide, by decide⟩ (fun v7 t7 => ?_)
  refine y_isub C t6 t7 dX8_isType_20 (fun v8 t8 => ?_)
  refine y_cSIp C (As := [.int xv1, .int v3, .int v8]) (rest := []) ms_X8_165 (kX8_in l G SB S_2 xt1 t3 t8 h) ⟨(Nat.le_of_ble_eq_true rfl), (Nat.le_of_ble_eq_true rfl)⟩ hl.1 rfl rfl (Nat.le_of_ble_eq_true rfl) hw hS dX8_isType_21 (fun v9 x_9 H locs t9 h hw hS => ?_)
  obtain ⟨z, h⟩ := h
  exact y_zret C hw hS t9 z h dX8_isType_24
theorem kX8_isType (l : Launch) (G : GG) (SB S : St) {xv1 : Int32} {x1 : Int} (xt1 : xv1.toInt = x1) {k : Int → St → Prop} (h : wX8_isType S x1 k) : CnI l yX8_isType cX8_isType 2 (some .boolean) 1 22 G (injR SB) [.ref (G.2.2 1042), .int xv1] S k :=
  cn_body (by decide +kernel) (Nat.le_of_ble_eq_true rfl) (fun p e s m args below meth c ls C hw hl => uX8_isType_0 C hw va_S.rf xt1 (lv_sub hl [0, 1] rfl) h)
set_option maxHeartbeats 4000000 in
set_option maxRecDepth 10000 in
theorem uX8_isMember_0 {p : Program} {l : Launch} {e : Env} {s : State} {m : MethodId} {args : Array Value} {below : List Frame} {meth : Method} {c : Code} {G : GG} {SB : St} (C : Cx p s m args meth c G RX8 cX8_isMember 2 (some .boolean)) {S : St} {H : Heap} {locs : List Loc} {ls : Array Slot}  {k : Int → St → Prop} (hw : Wd G ((injR SB) S) H) (hS : va_S (AG G) s.heap H locs) {xv1 : Int32} {x1 : Int} (xt1 : xv1.toInt = x1) (hl : lv_has ls 2 [(0, .ref (G.2.2 1042)), (1, .int xv1)])  (h : wX8_isMember_0 S x1 k) : W p l e (rmF 1 22) s m args below meth c H locs 0 0 (MQ below (QcI G (injR SB) k) args s 0 0 (AG G)) (F0 m 0 ls []) := by
  refine lv_aload_n C.1.1 C.1.2.1 dX8_isMember_0 rfl (lv_at hl 0 rfl) ?_
  refine lv_aload_n C.1.1 C.1.2.1 dX8_isMember_1 rfl (lv_at hl 0 rfl) ?_
  refine y_getI C fl_X8_211 hw (ocr SB) rfl dX8_isMember_2 (fun v1 t1 => ?_)
  obtain ⟨S_2, e2⟩ : ∃ z : St, z = up S 0 10 (S 0 11) := ⟨_, rfl⟩
  have h := h S_2 e2
  refine y_putI C fl_X8_208 fp_8_10 hw hS (ocr SB) rfl t1 dX8_isMember_5 (fun H locs hw hS => ?_)
  have hw : Wd G ((injR SB) S_2) H := by rw [e2]; exact hw
  refine lv_iload_n C.1.1 C.1.2.1 dX8_isMember_8 rfl (lv_at hl 1 rfl) ?_
  refine y_iconst C dX8_isMember_9 ⟨by decide, by decide⟩ (fun v3 t3 => ?_)
  refine lv_aload_n C.1.1 C.1.2.1 dX8_isMember_10 rfl (lv_at hl 0 rfl) ?_
  refine y_getA C fl_X8_49 hw (ocr SB) rfl (o := 4) rfl dX8_isMember_11 ?_
  refine lv_aload_n C.1.1 C.1.2.1 dX8_isMember_14 rfl (lv_at hl 0 rfl) ?_
  refine y_getI C fl_X8_208 hw (ocr SB) rfl dX8_isMember_15 (fun v5 t5 => ?_)
  obtain ⟨b6, h⟩ := h
  refine y_iald C hw (acr_13 SB) t5 b6 dX8_isMember_18 (fun v6 t6 => ?_)
  refine y_iconst C dX8_isMember_19 ⟨by decide, by decide⟩ (fun v7 t7 => ?_)
  refine y_isub C t6 t7 dX8_isMember_20 (fun v8 t8 => ?_)
  refine y_cSIp C (As := [.int xv1, .int v3, .int v8]) (rest := []) ms_X8_165 (kX8_in l G SB S_2 xt1 t3 t8 h) ⟨(Nat.le_of_ble_eq_true rfl), (Nat.le_of_ble_eq_true rfl)⟩ hl.1 rfl rfl (Nat.le_of_ble_eq_true rfl) hw hS dX8_isMember_21 (fun v9 x_9 H locs t9 h hw hS => ?_)
  obtain ⟨z, h⟩ := h
  exact y_zret C hw hS t9 z h dX8_isMember_24
theorem kX8_isMember (l : Launch) (G : GG) (SB S : St) {xv1 : Int32} {x1 : Int} (xt1 : xv1.toInt = x1) {k : Int → St → Prop} (h : wX8_isMember S x1 k) : CnI l yX8_isMember cX8_isMember 2 (some .boolean) 1 22 G (injR SB) [.ref (G.2.2 1042), .int xv1] S k :=
  cn_body (by decide +kernel) (Nat.le_of_ble_eq_true rfl) (fun p e s m args below meth c ls C hw hl => uX8_isMember_0 C hw va_S.rf xt1 (lv_sub hl [0, 1] rfl) h)
set_option maxHeartbeats 4000000 in
set_option maxRecDepth 10000 in
theorem uX8_isUnder_0 {p : Program} {l : Launch} {e : Env} {s : State} {m : MethodId} {args : Array Value} {below : List Frame} {meth : Method} {c : Code} {G : GG} {SB : St} (C : Cx p s m args meth c G RX8 cX8_isUnder 3 (some .boolean)) {S : St} {H : Heap} {locs : List Loc} {ls : Array Slot}  {k : Int → Prop} (hw : Wd G ((injR SB) S) H) (hS : va_S (AG G) s.heap H locs) {xv1 : Int32} {x1 : Int} (xt1 : xv1.toInt = x1) {xv2 : Int32} {x2 : Int} (xt2 : xv2.toInt = x2) (hl : lv_has ls 3 [(0, .ref (G.2.2 1042)), (1, .int xv1), (2, .int xv2)])  (h : wX8_isUnder_0 S x1 x2 k) : W p l e (rmF 1 21) s m args below meth c H locs 0 0 (MQ below (QcI G (injR SB) (fun r u => k r ∧ u = S)) args s 0 0 (AG G)) (F0 m 0 ls []) := by
  refine lv_iload_n C.1.1 C.1.2.1 dX8_isUnder_0 rfl (lv_at hl 1 rfl) ?_
  refine lv_iload_n C.1.1 C.1.2.1 dX8_isUnder_1 rfl (lv_at hl 2 rfl) ?_
  refine y_icmp_eq C xt1 xt2 dX8_isUnder_2 (tgt := 23) (by decide) (fun c1 => ?_) (fun c1 => ?_)
  · have h := h.1 c1
    refine y_iconst C dX8_isUnder_23 ⟨by decide, by decide⟩ (fun v2 t2 => ?_)
    refine lv_goto (tgt := 28) C.1.1 C.1.2.1 dX8_isUnder_24 (by decide) ?_
    exact y_zret C hw hS t2 (Or.inr rfl) ⟨h, rfl⟩ dX8_isUnder_28
  · have h := h.2 c1
    refine lv_aload_n C.1.1 C.1.2.1 dX8_isUnder_5 rfl (lv_at hl 0 rfl) ?_
    refine y_getA C fl_X8_103 hw (ocr SB) rfl (o := 22) rfl dX8_isUnder_6 ?_
    refine y_bipush C dX8_isUnder_9 ⟨by decide, by decide⟩ (fun v4 t4 => ?_)
    refine lv_aload_n C.1.1 C.1.2.1 dX8_isUnder_11 rfl (lv_at hl 0 rfl) ?_
    refine lv_iload_n C.1.1 C.1.2.1 dX8_isUnder_12 rfl (lv_at hl 1 rfl) ?_
    refine y_cVIp C (As := [.int xv1]) (rest := [.int v4, .ref (G.2.2 (1064))]) ml_X8_214 (kX8_t l G SB S xt1 h) (ocr SB) (T := TX8) (N := 60) rfl (by decide) ⟨(Nat.le_of_ble_eq_true rfl), (Nat.le_of_ble_eq_true rfl)⟩ hl.1 rfl rfl (Nat.le_of_ble_eq_true rfl) hw hS dX8_isUnder_13 (fun v5 x_5 H locs t5 h hw hS => ?_)
    refine y_imul C t4 t5 dX8_isUnder_16 (fun v6 t6 => ?_)
    refine lv_iload_n C.1.1 C.1.2.1 dX8_isUnder_17 rfl (lv_at hl 2 rfl) ?_
    refine y_iadd C t6 xt2 dX8_isUnder_18 (fun v7 t7 => ?_)
    obtain ⟨b8, h⟩ := h
    refine y_zald C hw (acr_31 SB) t7 b8 dX8_isUnder_19 (fun v8 t8 => ?_)
    refine y_if_eq C t8 dX8_isUnder_20 (tgt := 27) (by decide) (fun c9 => ?_) (fun c9 => ?_)
    · have h := h.1 c9
      refine y_iconst C dX8_isUnder_27 ⟨by decide, by decide⟩ (fun v10 t10 => ?_)
      exact y_zret C hw hS t10 (Or.inl rfl) ⟨h, rfl⟩ dX8_isUnder_28
    · have h := h.2 c9
      refine y_iconst C dX8_isUnder_23 ⟨by decide, by decide⟩ (fun v11 t11 => ?_)
      refine lv_goto (tgt := 28) C.1.1 C.1.2.1 dX8_isUnder_24 (by decide) ?_
      exact y_zret C hw hS t11 (Or.inr rfl) ⟨h, rfl⟩ dX8_isUnder_28
theorem kX8_isUnder (l : Launch) (G : GG) (SB S : St) {xv1 : Int32} {x1 : Int} (xt1 : xv1.toInt = x1) {xv2 : Int32} {x2 : Int} (xt2 : xv2.toInt = x2) {k : Int → Prop} (h : wX8_isUnder S x1 x2 k) : CnI l yX8_isUnder cX8_isUnder 3 (some .boolean) 1 21 G (injR SB) [.ref (G.2.2 1042), .int xv1, .int xv2] S (fun r u => k r ∧ u = S) :=
  cn_body (by decide +kernel) (Nat.le_of_ble_eq_true rfl) (fun p e s m args below meth c ls C hw hl => uX8_isUnder_0 C hw va_S.rf xt1 xt2 (lv_sub hl [0, 1, 2] rfl) h)
set_option maxHeartbeats 4000000 in
set_option maxRecDepth 10000 in
theorem uX8_isSamePackage_0 {p : Program} {l : Launch} {e : Env} {s : State} {m : MethodId} {args : Array Value} {below : List Frame} {meth : Method} {c : Code} {G : GG} {SB : St} (C : Cx p s m args meth c G RX8 cX8_isSamePackage 3 (some .boolean)) {S : St} {H : Heap} {locs : List Loc} {ls : Array Slot}  {k : Int → Prop} (hw : Wd G ((injR SB) S) H) (hS : va_S (AG G) s.heap H locs) {xv1 : Int32} {x1 : Int} (xt1 : xv1.toInt = x1) {xv2 : Int32} {x2 : Int} (xt2 : xv2.toInt = x2) (hl : lv_has ls 3 [(0, .ref (G.2.2 1042)), (1, .int xv1), (2, .int xv2)])  (h : wX8_isSamePackage_0 S x1 x2 k) : W p l e (rmF 1 21) s m args below meth c H locs 0 0 (MQ below (QcI G (injR SB) (fun r u => k r ∧ u = S)) args s 0 0 (AG G)) (F0 m 0 ls []) := by
  refine lv_aload_n C.1.1 C.1.2.1 dX8_isSamePackage_0 rfl (lv_at hl 0 rfl) ?_
  refine y_getA C fl_X8_64 hw (ocr SB) rfl (o := 9) rfl dX8_isSamePackage_1 ?_
  refine lv_aload_n C.1.1 C.1.2.1 dX8_isSamePackage_4 rfl (lv_at hl 0 rfl) ?_
  refine lv_iload_n C.1.1 C.1.2.1 dX8_isSamePackage_5 rfl (lv_at hl 1 rfl) ?_
  refine y_cVIp C (As := [.int xv1]) (rest := [.ref (G.2.2 (1051))]) ml_X8_214 (kX8_t l G SB S xt1 h) (ocr SB) (T := TX8) (N := 60) rfl (by decide) ⟨(Nat.le_of_ble_eq_true rfl), (Nat.le_of_ble_eq_true rfl)⟩ hl.1 rfl rfl (Nat.le_of_ble_eq_true rfl) hw hS dX8_isSamePackage_6 (fun v2 x_2 H locs t2 h hw hS => ?_)
  obtain ⟨b3, h⟩ := h
  refine y_iald C hw (acr_18 SB) t2 b3 dX8_isSamePackage_9 (fun v3 t3 => ?_)
  refine lv_aload_n C.1.1 C.1.2.1 dX8_isSamePackage_10 rfl (lv_at hl 0 rfl) ?_
  refine y_getA C fl_X8_64 hw (ocr SB) rfl (o := 9) rfl dX8_isSamePackage_11 ?_
  refine lv_aload_n C.1.1 C.1.2.1 dX8_isSamePackage_14 rfl (lv_at hl 0 rfl) ?_
  refine lv_iload_n C.1.1 C.1.2.1 dX8_isSamePackage_15 rfl (lv_at hl 2 rfl) ?_
  refine y_cVIp C (As := [.int xv2]) (rest := [.ref (G.2.2 (1051)), .int v3]) ml_X8_214 (kX8_t l G SB S xt2 h) (ocr SB) (T := TX8) (N := 60) rfl (by decide) ⟨(Nat.le_of_ble_eq_true rfl), (Nat.le_of_ble_eq_true rfl)⟩ hl.1 rfl rfl (Nat.le_of_ble_eq_true rfl) hw hS dX8_isSamePackage_16 (fun v5 x_5 H locs t5 h hw hS => ?_)
  obtain ⟨b6, h⟩ := h
  refine y_iald C hw (acr_18 SB) t5 b6 dX8_isSamePackage_19 (fun v6 t6 => ?_)
  refine y_icmp_ne C t3 t6 dX8_isSamePackage_20 (tgt := 50) (by decide) (fun c7 => ?_) (fun c7 => ?_)
  · have h := h.1 c7
    refine y_iconst C dX8_isSamePackage_50 ⟨by decide, by decide⟩ (fun v8 t8 => ?_)
    exact y_zret C hw hS t8 (Or.inl rfl) ⟨h, rfl⟩ dX8_isSamePackage_51
  · have h := h.2 c7
    refine lv_aload_n C.1.1 C.1.2.1 dX8_isSamePackage_23 rfl (lv_at hl 0 rfl) ?_
    refine y_getA C fl_X8_67 hw (ocr SB) rfl (o := 10) rfl dX8_isSamePackage_24 ?_
    refine lv_aload_n C.1.1 C.1.2.1 dX8_isSamePackage_27 rfl (lv_at hl 0 rfl) ?_
    refine lv_iload_n C.1.1 C.1.2.1 dX8_isSamePackage_28 rfl (lv_at hl 1 rfl) ?_
    refine y_cVIp C (As := [.int xv1]) (rest := [.ref (G.2.2 (1052))]) ml_X8_214 (kX8_t l G SB S xt1 h) (ocr SB) (T := TX8) (N := 60) rfl (by decide) ⟨(Nat.le_of_ble_eq_true rfl), (Nat.le_of_ble_eq_true rfl)⟩ hl.1 rfl rfl (Nat.le_of_ble_eq_true rfl) hw hS dX8_isSamePackage_29 (fun v10 x_10 H locs t10 h hw hS => ?_)
    obtain ⟨b11, h⟩ := h
    refine y_iald C hw (acr_19 SB) t10 b11 dX8_isSamePackage_32 (fun v11 t11 => ?_)
    refine lv_aload_n C.1.1 C.1.2.1 dX8_isSamePackage_33 rfl (lv_at hl 0 rfl) ?_
    refine y_getA C fl_X8_67 hw (ocr SB) rfl (o := 10) rfl dX8_isSamePackage_34 ?_
    refine lv_aload_n C.1.1 C.1.2.1 dX8_isSamePackage_37 rfl (lv_at hl 0 rfl) ?_
    refine lv_iload_n C.1.1 C.1.2.1 dX8_isSamePackage_38 rfl (lv_at hl 2 rfl) ?_
    refine y_cVIp C (As := [.int xv2]) (rest := [.ref (G.2.2 (1052)), .int v11]) ml_X8_214 (kX8_t l G SB S xt2 h) (ocr SB) (T := TX8) (N := 60) rfl (by decide) ⟨(Nat.le_of_ble_eq_true rfl), (Nat.le_of_ble_eq_true rfl)⟩ hl.1 rfl rfl (Nat.le_of_ble_eq_true rfl) hw hS dX8_isSamePackage_39 (fun v13 x_13 H locs t13 h hw hS => ?_)
    obtain ⟨b14, h⟩ := h
    refine y_iald C hw (acr_19 SB) t13 b14 dX8_isSamePackage_42 (fun v14 t14 => ?_)
    refine y_icmp_ne C t11 t14 dX8_isSamePackage_43 (tgt := 50) (by decide) (fun c15 => ?_) (fun c15 => ?_)
    · have h := h.1 c15
      refine y_iconst C dX8_isSamePackage_50 ⟨by decide, by decide⟩ (fun v16 t16 => ?_)
      exact y_zret C hw hS t16 (Or.inl rfl) ⟨h, rfl⟩ dX8_isSamePackage_51
    · have h := h.2 c15
      refine y_iconst C dX8_isSamePackage_46 ⟨by decide, by decide⟩ (fun v17 t17 => ?_)
      refine lv_goto (tgt := 51) C.1.1 C.1.2.1 dX8_isSamePackage_47 (by decide) ?_
      exact y_zret C hw hS t17 (Or.inr rfl) ⟨h, rfl⟩ dX8_isSamePackage_51
theorem kX8_isSamePackage (l : Launch) (G : GG) (SB S : St) {xv1 : Int32} {x1 : Int} (xt1 : xv1.toInt = x1) {xv2 : Int32} {x2 : Int} (xt2 : xv2.toInt = x2) {k : Int → Prop} (h : wX8_isSamePackage S x1 x2 k) : CnI l yX8_isSamePackage cX8_isSamePackage 3 (some .boolean) 1 21 G (injR SB) [.ref (G.2.2 1042), .int xv1, .int xv2] S (fun r u => k r ∧ u = S) :=
  cn_body (by decide +kernel) (Nat.le_of_ble_eq_true rfl) (fun p e s m args below meth c ls C hw hl => uX8_isSamePackage_0 C hw va_S.rf xt1 xt2 (lv_sub hl [0, 1, 2] rfl) h)
set_option maxHeartbeats 4000000 in
set_option maxRecDepth 10000 in
theorem uX8_seenVar_0 {p : Program} {l : Launch} {e : Env} {s : State} {m : MethodId} {args : Array Value} {below : List Frame} {meth : Method} {c : Code} {G : GG} {SB : St} (C : Cx p s m args meth c G RX8 cX8_seenVar 4 (some .int)) {S : St} {H : Heap} {locs : List Loc} {ls : Array Slot}  {k : Int → Prop} (hw : Wd G ((injR SB) S) H) (hS : va_S (AG G) s.heap H locs) {xv1 : Int32} {x1 : Int} (xt1 : xv1.toInt = x1) {xv2 : Int32} {x2 : Int} (xt2 : xv2.toInt = x2) {xv3 : Int32} {x3 : Int} (xt3 : xv3.toInt = x3) (hl : lv_has ls 4 [(0, .ref (G.2.2 1042)), (1, .int xv1), (2, .int xv2), (3, .int xv3)])  (h : wX8_seenVar_0 S x1 x2 x3 k) : W p l e (rmF 1 21) s m args below meth c H locs 0 0 (MQ below (QcI G (injR SB) (fun r u => k r ∧ u = S)) args s 0 0 (AG G)) (F0 m 0 ls []) := by
  refine lv_iload_n C.1.1 C.1.2.1 dX8_seenVar_0 rfl (lv_at hl 1 rfl) ?_
  refine lv_iload_n C.1.1 C.1.2.1 dX8_seenVar_1 rfl (lv_at hl 2 rfl) ?_
  refine y_icmp_ne C xt1 xt2 dX8_seenVar_2 (tgt := 12) (by decide) (fun c1 => ?_) (fun c1 => ?_)
  · have h := h.1 c1
    refine lv_aload_n C.1.1 C.1.2.1 dX8_seenVar_12 rfl (lv_at hl 0 rfl) ?_
    refine y_getA C fl_X8_107 hw (ocr SB) rfl (o := 23) rfl dX8_seenVar_13 ?_
    refine y_iconst C dX8_seenVar_16 ⟨by decide, by decide⟩ (fun v3 t3 => ?_)
    refine y_bipush C dX8_seenVar_17 ⟨by decide, by decide⟩ (fun v4 t4 => ?_)
    refine lv_aload_n C.1.1 C.1.2.1 dX8_seenVar_19 rfl (lv_at hl 0 rfl) ?_
    refine lv_iload_n C.1.1 C.1.2.1 dX8_seenVar_20 rfl (lv_at hl 1 rfl) ?_
    refine y_cVIp C (As := [.int xv1]) (rest := [.int v4, .int v3, .ref (G.2.2 (1065))]) ml_X8_214 (kX8_t l G SB S xt1 h) (ocr SB) (T := TX8) (N := 60) rfl (by decide) ⟨(Nat.le_of_ble_eq_true rfl), (Nat.le_of_ble_eq_true rfl)⟩ hl.1 rfl rfl (Nat.le_of_ble_eq_true rfl) hw hS dX8_seenVar_21 (fun v5 x_5 H locs t5 h hw hS => ?_)
    refine y_imul C t4 t5 dX8_seenVar_24 (fun v6 t6 => ?_)
    refine lv_iload_n C.1.1 C.1.2.1 dX8_seenVar_25 rfl (lv_at hl 2 rfl) ?_
    refine y_iadd C t6 xt2 dX8_seenVar_26 (fun v7 t7 => ?_)
    refine y_imul C t3 t7 dX8_seenVar_27 (fun v8 t8 => ?_)
    refine lv_iload_n C.1.1 C.1.2.1 dX8_seenVar_28 rfl (lv_at hl 3 rfl) ?_
    refine y_iadd C t8 xt3 dX8_seenVar_29 (fun v9 t9 => ?_)
    obtain ⟨b10, h⟩ := h
    refine y_iald C hw (acr_32 SB) t9 b10 dX8_seenVar_30 (fun v10 t10 => ?_)
    exact y_iret C hw hS t10 ⟨h, rfl⟩ dX8_seenVar_31
  · have h := h.2 c1
    refine y_bipush C dX8_seenVar_5 ⟨by decide, by decide⟩ (fun v11 t11 => ?_)
    refine lv_iload_n C.1.1 C.1.2.1 dX8_seenVar_7 rfl (lv_at hl 3 rfl) ?_
    refine y_iadd C t11 xt3 dX8_seenVar_8 (fun v12 t12 => ?_)
    refine lv_goto (tgt := 31) C.1.1 C.1.2.1 dX8_seenVar_9 (by decide) ?_
    exact y_iret C hw hS t12 ⟨h, rfl⟩ dX8_seenVar_31
theorem kX8_seenVar (l : Launch) (G : GG) (SB S : St) {xv1 : Int32} {x1 : Int} (xt1 : xv1.toInt = x1) {xv2 : Int32} {x2 : Int} (xt2 : xv2.toInt = x2) {xv3 : Int32} {x3 : Int} (xt3 : xv3.toInt = x3) {k : Int → Prop} (h : wX8_seenVar S x1 x2 x3 k) : CnI l yX8_seenVar cX8_seenVar 4 (some .int) 1 21 G (injR SB) [.ref (G.2.2 1042), .int xv1, .int xv2, .int xv3] S (fun r u => k r ∧ u = S) :=
  cn_body (by decide +kernel) (Nat.le_of_ble_eq_true rfl) (fun p e s m args below meth c ls C hw hl => uX8_seenVar_0 C hw va_S.rf xt1 xt2 xt3 (lv_sub hl [0, 1, 2, 3] rfl) h)
set_option maxHeartbeats 4000000 in
set_option maxRecDepth 10000 in
theorem uX8_kindSeen_0 {p : Program} {l : Launch} {e : Env} {s : State} {m : MethodId} {args : Array Value} {below : List Frame} {meth : Method} {c : Code} {G : GG} {SB : St} (C : Cx p s m args meth c G RX8 cX8_kindSeen 5 (some .int)) {S : St} {H : Heap} {locs : List Loc} {ls : Array Slot}  {k : Int → Prop} (hw : Wd G ((injR SB) S) H) (hS : va_S (AG G) s.heap H locs) {xv1 : Int32} {x1 : Int} (xt1 : xv1.toInt = x1) {xv2 : Int32} {x2 : Int} (xt2 : xv2.toInt = x2) {xv3 : Int32} {x3 : Int} (xt3 : xv3.toInt = x3) (hl : lv_has ls 5 [(0, .ref (G.2.2 1042)), (1, .int xv1), (2, .int xv2), (3, .int xv3)])  (h : wX8_kindSeen_0 S x1 x2 x3 k) : W p l e (rmF 2 44) s m args below meth c H locs 0 0 (MQ below (QcI G (injR SB) (fun r u => k r ∧ u = S)) args s 0 0 (AG G)) (F0 m 0 ls []) := by
  refine lv_aload_n C.1.1 C.1.2.1 dX8_kindSeen_0 rfl (lv_at hl 0 rfl) ?_
  refine y_getA C fl_X8_137 hw (ocr SB) rfl (o := 33) rfl dX8_kindSeen_1 ?_
  refine y_iconst C dX8_kindSeen_4 ⟨by decide, by decide⟩ (fun v2 t2 => ?_)
  refine lv_aload_n C.1.1 C.1.2.1 dX8_kindSeen_5 rfl (lv_at hl 0 rfl) ?_
  refine lv_iload_n C.1.1 C.1.2.1 dX8_kindSeen_6 rfl (lv_at hl 2 rfl) ?_
  refine y_cVIp C (As := [.int xv2]) (rest := [.int v2, .ref (G.2.2 (1075))]) ml_X8_218 (kX8_m l G SB S xt2 h) (ocr SB) (T := TX8) (N := 60) rfl (by decide) ⟨(Nat.le_of_ble_eq_true rfl), (Nat.le_of_ble_eq_true rfl)⟩ hl.1 rfl rfl (Nat.le_of_ble_eq_true rfl) hw hS dX8_kindSeen_7 (fun v3 x_3 H locs t3 h hw hS => ?_)
  refine y_imul C t2 t3 dX8_kindSeen_10 (fun v4 t4 => ?_)
  refine lv_iload_n C.1.1 C.1.2.1 dX8_kindSeen_11 rfl (lv_at hl 3 rfl) ?_
  refine y_iadd C t4 xt3 dX8_kindSeen_12 (fun v5 t5 => ?_)
  obtain ⟨b6, h⟩ := h
  refine y_iald C hw (acr_42 SB) t5 b6 dX8_kindSeen_13 (fun v6 t6 => ?_)
  obtain ⟨x_7, e7⟩ : ∃ z : Int, z = S 33 (w32 (w32 (3 * x_3) + x3)) := ⟨_, rfl⟩
  have h := h x_7 e7
  have t7 := t6.trans e7.symm
  refine lv_istore (lv' := [(4, .int v6), (0, .ref (G.2.2 1042)), (1, .int xv1), (2, .int xv2), (3, .int xv3)]) C.1.1 C.1.2.1 dX8_kindSeen_14 hl (by decide) rfl (fun ls hl => ?_)
  refine lv_iload C.1.1 C.1.2.1 dX8_kindSeen_16 (lv_at hl 0 rfl) ?_
  refine y_bipush C dX8_kindSeen_18 ⟨by decide, by decide⟩ (fun v8 t8 => ?_)
  refine y_icmp_lt C t7 t8 dX8_kindSeen_20 (tgt := 46) (by decide) (fun c9 => ?_) (fun c9 => ?_)
  · have h := h.1 c9
    refine lv_iload C.1.1 C.1.2.1 dX8_kindSeen_46 (lv_at hl 0 rfl) ?_
    exact y_iret C hw hS t7 ⟨h, rfl⟩ dX8_kindSeen_48
  · have h := h.2 c9
    refine lv_aload_n C.1.1 C.1.2.1 dX8_kindSeen_23 rfl (lv_at hl 1 rfl) ?_
    refine lv_iload_n C.1.1 C.1.2.1 dX8_kindSeen_24 rfl (lv_at hl 2 rfl) ?_
    refine lv_aload_n C.1.1 C.1.2.1 dX8_kindSeen_25 rfl (lv_at hl 1 rfl) ?_
    refine y_getA C fl_X8_122 hw (ocr SB) rfl (o := 28) rfl dX8_kindSeen_26 ?_
    refine lv_aload_n C.1.1 C.1.2.1 dX8_kindSeen_29 rfl (lv_at hl 1 rfl) ?_
    refine lv_iload_n C.1.1 C.1.2.1 dX8_kindSeen_30 rfl (lv_at hl 3 rfl) ?_
    refine y_cVIp C (As := [.int xv2]) (rest := [.ref (G.2.2 (1070)), .int xv1, .ref (G.2.2 1042)]) ml_X8_218 (kX8_m l G SB S xt2 h) (ocr SB) (T := TX8) (N := 60) rfl (by decide) ⟨(Nat.le_of_ble_eq_true rfl), (Nat.le_of_ble_eq_true rfl)⟩ hl.1 rfl rfl (Nat.le_of_ble_eq_true rfl) hw hS dX8_kindSeen_31 (fun v11 x_11 H locs t11 h hw hS => ?_)
    obtain ⟨b12, h⟩ := h
    refine y_iald C hw (acr_37 SB) t11 b12 dX8_kindSeen_34 (fun v12 t12 => ?_)
    refine lv_iload C.1.1 C.1.2.1 dX8_kindSeen_35 (lv_at hl 0 rfl) ?_
    refine y_bipush C dX8_kindSeen_37 ⟨by decide, by decide⟩ (fun v13 t13 => ?_)
    refine y_isub C t7 t13 dX8_kindSeen_39 (fun v14 t14 => ?_)
    refine y_cVIp C (As := [.int xv1, .int v12, .int v14]) (rest := []) ml_X8_221 (kX8_seenVar l G SB S xt1 t12 t14 h) (ocr SB) (T := TX8) (N := 60) rfl (by decide) ⟨(Nat.le_of_ble_eq_true rfl), (Nat.le_of_ble_eq_true rfl)⟩ hl.1 rfl rfl (Nat.le_of_ble_eq_true rfl) hw hS dX8_kindSeen_40 (fun v15 x_15 H locs t15 h hw hS => ?_)
    refine lv_goto (tgt := 48) C.1.1 C.1.2.1 dX8_kindSeen_43 (by decide) ?_
    exact y_iret C hw hS t15 ⟨h, rfl⟩ dX8_kindSeen_48
theorem kX8_kindSeen (l : Launch) (G : GG) (SB S : St) {xv1 : Int32} {x1 : Int} (xt1 : xv1.toInt = x1) {xv2 : Int32} {x2 : Int} (xt2 : xv2.toInt = x2) {xv3 : Int32} {x3 : Int} (xt3 : xv3.toInt = x3) {k : Int → Prop} (h : wX8_kindSeen S x1 x2 x3 k) : CnI l yX8_kindSeen cX8_kindSeen 5 (some .int) 2 44 G (injR SB) [.ref (G.2.2 1042), .int xv1, .int xv2, .int xv3] S (fun r u => k r ∧ u = S) :=
  cn_body (by decide +kernel) (Nat.le_of_ble_eq_true rfl) (fun p e s m args below meth c ls C hw hl => uX8_kindSeen_0 C hw va_S.rf xt1 xt2 xt3 (lv_sub hl [0, 1, 2, 3] rfl) h)
set_option maxHeartbeats 4000000 in
set_option maxRecDepth 10000 in
theorem uX8_boundOf_0 {p : Program} {l : Launch} {e : Env} {s : State} {m : MethodId} {args : Array Value} {below : List Frame} {meth : Method} {c : Code} {G : GG} {SB : St} (C : Cx p s m args meth c G RX8 cX8_boundOf 3 (some .int)) {S : St} {H : Heap} {locs : List Loc} {ls : Array Slot}  {k : Int → Prop} (hw : Wd G ((injR SB) S) H) (hS : va_S (AG G) s.heap H locs) {xv1 : Int32} {x1 : Int} (xt1 : xv1.toInt = x1) {xv2 : Int32} {x2 : Int} (xt2 : xv2.toInt = x2) (hl : lv_has ls 3 [(0, .ref (G.2.2 1042)), (1, .int xv1), (2, .int xv2)])  (h : wX8_boundOf_0 S x1 x2 k) : W p l e (rmF 1 21) s m args below meth c H locs 0 0 (MQ below (QcI G (injR SB) (fun r u => k r ∧ u = S)) args s 0 0 (AG G)) (F0 m 0 ls []) := by
  refine lv_iload_n C.1.1 C.1.2.1 dX8_boundOf_0 rfl (lv_at hl 2 rfl) ?_
  refine y_bipush C dX8_boundOf_1 ⟨by decide, by decide⟩ (fun v1 t1 => ?_)
  refine y_icmp_lt C xt2 t1 dX8_boundOf_3 (tgt := 26) (by decide) (fun c2 => ?_) (fun c2 => ?_)
  · have h := h.1 c2
    refine lv_iload_n C.1.1 C.1.2.1 dX8_boundOf_26 rfl (lv_at hl 2 rfl) ?_
    exact y_iret C hw hS xt2 ⟨h, rfl⟩ dX8_boundOf_27
  · have h := h.2 c2
    refine lv_aload_n C.1.1 C.1.2.1 dX8_boundOf_6 rfl (lv_at hl 0 rfl) ?_
    refine y_getA C fl_X8_82 hw (ocr SB) rfl (o := 15) rfl dX8_boundOf_7 ?_
    refine y_iconst C dX8_boundOf_10 ⟨by decide, by decide⟩ (fun v4 t4 => ?_)
    refine lv_aload_n C.1.1 C.1.2.1 dX8_boundOf_11 rfl (lv_at hl 0 rfl) ?_
    refine lv_iload_n C.1.1 C.1.2.1 dX8_boundOf_12 rfl (lv_at hl 1 rfl) ?_
    refine y_cVIp C (As := [.int xv1]) (rest := [.int v4, .ref (G.2.2 (1057))]) ml_X8_214 (kX8_t l G SB S xt1 h) (ocr SB) (T := TX8) (N := 60) rfl (by decide) ⟨(Nat.le_of_ble_eq_true rfl), (Nat.le_of_ble_eq_true rfl)⟩ hl.1 rfl rfl (Nat.le_of_ble_eq_true rfl) hw hS dX8_boundOf_13 (fun v5 x_5 H locs t5 h hw hS => ?_)
    refine y_imul C t4 t5 dX8_boundOf_16 (fun v6 t6 => ?_)
    refine lv_iload_n C.1.1 C.1.2.1 dX8_boundOf_17 rfl (lv_at hl 2 rfl) ?_
    refine y_iadd C t6 xt2 dX8_boundOf_18 (fun v7 t7 => ?_)
    refine y_bipush C dX8_boundOf_19 ⟨by decide, by decide⟩ (fun v8 t8 => ?_)
    refine y_isub C t7 t8 dX8_boundOf_21 (fun v9 t9 => ?_)
    obtain ⟨b10, h⟩ := h
    refine y_iald C hw (acr_24 SB) t9 b10 dX8_boundOf_22 (fun v10 t10 => ?_)
    refine lv_goto (tgt := 27) C.1.1 C.1.2.1 dX8_boundOf_23 (by decide) ?_
    exact y_iret C hw hS t10 ⟨h, rfl⟩ dX8_boundOf_27
theorem kX8_boundOf (l : Launch) (G : GG) (SB S : St) {xv1 : Int32} {x1 : Int} (xt1 : xv1.toInt = x1) {xv2 : Int32} {x2 : Int} (xt2 : xv2.toInt = x2) {k : Int → Prop} (h : wX8_boundOf S x1 x2 k) : CnI l yX8_boundOf cX8_boundOf 3 (some .int) 1 21 G (injR SB) [.ref (G.2.2 1042), .int xv1, .int xv2] S (fun r u => k r ∧ u = S) :=
  cn_body (by decide +kernel) (Nat.le_of_ble_eq_true rfl) (fun p e s m args below meth c ls C hw hl => uX8_boundOf_0 C hw va_S.rf xt1 xt2 (lv_sub hl [0, 1, 2] rfl) h)
set_option maxHeartbeats 4000000 in
set_option maxRecDepth 10000 in
theorem uX8_kindErased_0 {p : Program} {l : Launch} {e : Env} {s : State} {m : MethodId} {args : Array Value} {below : List Frame} {meth : Method} {c : Code} {G : GG} {SB : St} (C : Cx p s m args meth c G RX8 cX8_kindErased 3 (some .int)) {S : St} {H : Heap} {locs : List Loc} {ls : Array Slot}  {k : Int → Prop} (hw : Wd G ((injR SB) S) H) (hS : va_S (AG G) s.heap H locs) {xv1 : Int32} {x1 : Int} (xt1 : xv1.toInt = x1) {xv2 : Int32} {x2 : Int} (xt2 : xv2.toInt = x2) (hl : lv_has ls 3 [(0, .ref (G.2.2 1042)), (1, .int xv1), (2, .int xv2)])  (h : wX8_kindErased_0 S x1 x2 k) : W p l e (rmF 2 43) s m args below meth c H locs 0 0 (MQ below (QcI G (injR SB) (fun r u => k r ∧ u = S)) args s 0 0 (AG G)) (F0 m 0 ls []) := by
  refine lv_aload_n C.1.1 C.1.2.1 dX8_kindErased_0 rfl (lv_at hl 0 rfl) ?_
  refine lv_aload_n C.1.1 C.1.2.1 dX8_kindErased_1 rfl (lv_at hl 0 rfl) ?_
  refine y_getA C fl_X8_122 hw (ocr SB) rfl (o := 28) rfl dX8_kindErased_2 ?_
  refine lv_aload_n C.1.1 C.1.2.1 dX8_kindErased_5 rfl (lv_at hl 0 rfl) ?_
  refine lv_iload_n C.1.1 C.1.2.1 dX8_kindErased_6 rfl (lv_at hl 1 rfl) ?_
  refine y_cVIp C (As := [.int xv1]) (rest := [.ref (G.2.2 (1070)), .ref (G.2.2 1042)]) ml_X8_218 (kX8_m l G SB S xt1 h) (ocr SB) (T := TX8) (N := 60) rfl (by decide) ⟨(Nat.le_of_ble_eq_true rfl), (Nat.le_of_ble_eq_true rfl)⟩ hl.1 rfl rfl (Nat.le_of_ble_eq_true rfl) hw hS dX8_kindErased_7 (fun v2 x_2 H locs t2 h hw hS => ?_)
  obtain ⟨b3, h⟩ := h
  refine y_iald C hw (acr_37 SB) t2 b3 dX8_kindErased_10 (fun v3 t3 => ?_)
  refine lv_aload_n C.1.1 C.1.2.1 dX8_kindErased_11 rfl (lv_at hl 0 rfl) ?_
  refine y_getA C fl_X8_137 hw (ocr SB) rfl (o := 33) rfl dX8_kindErased_12 ?_
  refine y_iconst C dX8_kindErased_15 ⟨by decide, by decide⟩ (fun v5 t5 => ?_)
  refine lv_aload_n C.1.1 C.1.2.1 dX8_kindErased_16 rfl (lv_at hl 0 rfl) ?_
  refine lv_iload_n C.1.1 C.1.2.1 dX8_kindErased_17 rfl (lv_at hl 1 rfl) ?_
  refine y_cVIp C (As := [.int xv1]) (rest := [.int v5, .ref (G.2.2 (1075)), .int v3, .ref (G.2.2 1042)]) ml_X8_218 (kX8_m l G SB S xt1 h) (ocr SB) (T := TX8) (N := 60) rfl (by decide) ⟨(Nat.le_of_ble_eq_true rfl), (Nat.le_of_ble_eq_true rfl)⟩ hl.1 rfl rfl (Nat.le_of_ble_eq_true rfl) hw hS dX8_kindErased_18 (fun v6 x_6 H locs t6 h hw hS => ?_)
  refine y_imul C t5 t6 dX8_kindErased_21 (fun v7 t7 => ?_)
  refine lv_iload_n C.1.1 C.1.2.1 dX8_kindErased_22 rfl (lv_at hl 2 rfl) ?_
  refine y_iadd C t7 xt2 dX8_kindErased_23 (fun v8 t8 => ?_)
  obtain ⟨b9, h⟩ := h
  refine y_iald C hw (acr_42 SB) t8 b9 dX8_kindErased_24 (fun v9 t9 => ?_)
  refine y_cVIp C (As := [.int v3, .int v9]) (rest := []) ml_X8_225 (kX8_boundOf l G SB S t3 t9 h) (ocr SB) (T := TX8) (N := 60) rfl (by decide) ⟨(Nat.le_of_ble_eq_true rfl), (Nat.le_of_ble_eq_true rfl)⟩ hl.1 rfl rfl (Nat.le_of_ble_eq_true rfl) hw hS dX8_kindErased_25 (fun v10 x_10 H locs t10 h hw hS => ?_)
  exact y_iret C hw hS t10 ⟨h, rfl⟩ dX8_kindErased_28
theorem kX8_kindErased (l : Launch) (G : GG) (SB S : St) {xv1 : Int32} {x1 : Int} (xt1 : xv1.toInt = x1) {xv2 : Int32} {x2 : Int} (xt2 : xv2.toInt = x2) {k : Int → Prop} (h : wX8_kindErased S x1 x2 k) : CnI l yX8_kindErased cX8_kindErased 3 (some .int) 2 43 G (injR SB) [.ref (G.2.2 1042), .int xv1, .int xv2] S (fun r u => k r ∧ u = S) :=
  cn_body (by decide +kernel) (Nat.le_of_ble_eq_true rfl) (fun p e s m args below meth c ls C hw hl => uX8_kindErased_0 C hw va_S.rf xt1 xt2 (lv_sub hl [0, 1, 2] rfl) h)
set_option maxHeartbeats 4000000 in
set_option maxRecDepth 10000 in
theorem uX8_isLike_55_b {p : Program} {l : Launch} {e : Env} {s : State} {m : MethodId} {args : Array Value} {below : List Frame} {meth : Method} {c : Code} {G : GG} {SB : St} (C : Cx p s m args meth c G RX8 cX8_isLike 6 (some .boolean)) {S : St} {H : Heap} {locs : List Loc} {ls : Array Slot}  {P55 : Int → Int → Prop} {k : Int → Prop} (hw : Wd G ((injR SB) S) H) (hS : va_S (AG G) s.heap H locs) {xv1 : Int32} {x1 : Int} (xt1 : xv1.toInt = x1) {xv2 : Int32} {x2 : Int} (xt2 : xv2.toInt = x2) {xv3 : Int32} {x3 : Int} (xt3 : xv3.toInt = x3) {xv4 : Int32} {x4 : Int} (xt4 : xv4.toInt = x4) {xv5 : Int32} {x5 : Int} (xt5 : xv5.toInt = x5) (hl : lv_has ls 6 [(0, .ref (G.2.2 1042)), (1, .int xv1), (2, .int xv2), (3, .int xv3), (4, .int xv4), (5, .int xv5)])  (hP55 : ∀ {H : Heap} {locs : List Loc} {ls : Array Slot} {yv4 : Int32} {y4 : Int} {yv5 : Int32} {y5 : Int}, yv4.toInt = y4 → yv5.toInt = y5 → Wd G ((injR SB) S) H → va_S (AG G) s.heap H locs → lv_has ls 6 [(0, .ref (G.2.2 1042)), (1, .int xv1), (2, .int xv2), (3, .int xv3), (4, .int yv4), (5, .int yv5)] → P55 y4 y5 → W p l e (rmF 3 68) s m args below meth c H locs 0 0 (MQ below (QcI G (injR SB) (fun r u => k r ∧ u = S)) args s 0 0 (AG G)) (F0 m 55 ls [])) (h : wX8_isLike_55_b S x1 x2 x3 x4 x5 P55 k) : W p l e (rmF 3 68) s m args below meth c H locs 0 0 (MQ below (QcI G (injR SB) (fun r u => k r ∧ u = S)) args s 0 0 (AG G)) (F0 m 55 ls []) := by
  refine lv_iload C.1.1 C.1.2.1 dX8_isLike_55 (lv_at hl 5 rfl) ?_
  refine lv_aload_n C.1.1 C.1.2.1 dX8_isLike_57 rfl (lv_at hl 0 rfl) ?_
  refine y_getA C fl_X8_134 hw (ocr SB) rfl (o := 32) rfl dX8_isLike_58 ?_
  refine lv_aload_n C.1.1 C.1.2.1 dX8_isLike_61 rfl (lv_at hl 0 rfl) ?_
  refine lv_iload_n C.1.1 C.1.2.1 dX8_isLike_62 rfl (lv_at hl 2 rfl) ?_
  refine y_cVIp C (As := [.int xv2]) (rest := [.ref (G.2.2 (1074)), .int xv5]) ml_X8_218 (kX8_m l G SB S xt2 h) (ocr SB) (T := TX8) (N := 60) rfl (by decide) ⟨(Nat.le_of_ble_eq_true rfl), (Nat.le_of_ble_eq_true rfl)⟩ hl.1 rfl rfl (Nat.le_of_ble_eq_true rfl) hw hS dX8_isLike_63 (fun v2 x_2 H locs t2 h hw hS => ?_)
  obtain ⟨b3, h⟩ := h
  refine y_iald C hw (acr_41 SB) t2 b3 dX8_isLike_66 (fun v3 t3 => ?_)
  refine y_icmp_ge C xt5 t3 dX8_isLike_67 (tgt := 107) (by decide) (fun c4 => ?_) (fun c4 => ?_)
  · have h := h.1 c4
    refine lv_iload C.1.1 C.1.2.1 dX8_isLike_107 (lv_at hl 4 rfl) ?_
    obtain ⟨z, h⟩ := h
    exact y_zret C hw hS xt4 z ⟨h, rfl⟩ dX8_isLike_109
  · have h := h.2 c4
    refine lv_iload C.1.1 C.1.2.1 dX8_isLike_70 (lv_at hl 4 rfl) ?_
    refine y_if_eq C xt4 dX8_isLike_72 (tgt := 98) (by decide) (fun c5 => ?_) (fun c5 => ?_)
    · have h := h.1 c5
      refine y_iconst C dX8_isLike_98 ⟨by decide, by decide⟩ (fun v6 t6 => ?_)
      refine lv_istore (lv' := [(4, .int v6), (0, .ref (G.2.2 1042)), (1, .int xv1), (2, .int xv2), (3, .int xv3), (5, .int xv5)]) C.1.1 C.1.2.1 dX8_isLike_99 hl (by decide) rfl (fun ls hl => ?_)
      obtain ⟨x_7, e7⟩ : ∃ z : Int, z = w32 (x5 + 1) := ⟨_, rfl⟩
      have h := h x_7 e7
      obtain ⟨v7, t7, g7⟩ : ∃ z : Int32, z.toInt = x_7 ∧ xv5 + Int32.ofInt 1 = z := ⟨_, (ti_inc xt5 ⟨by decide, by decide⟩).trans e7.symm, rfl⟩
      refine lv_iinc (v := v7) (lv' := [(5, .int v7), (4, .int v6), (0, .ref (G.2.2 1042)), (1, .int xv1), (2, .int xv2), (3, .int xv3)]) C.1.1 C.1.2.1 dX8_isLike_101 hl (k := 5) rfl g7 (by decide) rfl (fun ls hl => ?_)
      refine lv_goto (tgt := 55) C.1.1 C.1.2.1 dX8_isLike_104 (by decide) ?_
      exact hP55 t6 t7 hw hS (lv_sub hl [2, 3, 4, 5, 1, 0] rfl) h
    · have h := h.2 c5
      refine lv_aload_n C.1.1 C.1.2.1 dX8_isLike_75 rfl (lv_at hl 0 rfl) ?_
      refine lv_iload_n C.1.1 C.1.2.1 dX8_isLike_76 rfl (lv_at hl 1 rfl) ?_
      refine lv_iload_n C.1.1 C.1.2.1 dX8_isLike_77 rfl (lv_at hl 2 rfl) ?_
      refine lv_iload C.1.1 C.1.2.1 dX8_isLike_78 (lv_at hl 5 rfl) ?_
      refine y_cVIp C (As := [.int xv1, .int xv2, .int xv5]) (rest := []) ml_X8_229 (kX8_kindSeen l G SB S xt1 xt2 xt5 h) (ocr SB) (T := TX8) (N := 60) rfl (by decide) ⟨(Nat.le_of_ble_eq_true rfl), (Nat.le_of_ble_eq_true rfl)⟩ hl.1 rfl rfl (Nat.le_of_ble_eq_true rfl) hw hS dX8_isLike_80 (fun v8 x_8 H locs t8 h hw hS => ?_)
      refine lv_aload_n C.1.1 C.1.2.1 dX8_isLike_83 rfl (lv_at hl 0 rfl) ?_
      refine lv_iload_n C.1.1 C.1.2.1 dX8_isLike_84 rfl (lv_at hl 1 rfl) ?_
      refine lv_iload_n C.1.1 C.1.2.1 dX8_isLike_85 rfl (lv_at hl 3 rfl) ?_
      refine lv_iload C.1.1 C.1.2.1 dX8_isLike_86 (lv_at hl 5 rfl) ?_
      refine y_cVIp C (As := [.int xv1, .int xv3, .int xv5]) (rest := [.int v8]) ml_X8_229 (kX8_kindSeen l G SB S xt1 xt3 xt5 h) (ocr SB) (T := TX8) (N := 60) rfl (by decide) ⟨(Nat.le_of_ble_eq_true rfl), (Nat.le_of_ble_eq_true rfl)⟩ hl.1 rfl rfl (Nat.le_of_ble_eq_true rfl) hw hS dX8_isLike_88 (fun v9 x_9 H locs t9 h hw hS => ?_)
      refine y_icmp_ne C t8 t9 dX8_isLike_91 (tgt := 98) (by decide) (fun c10 => ?_) (fun c10 => ?_)
      · have h := h.1 c10
        refine y_iconst C dX8_isLike_98 ⟨by decide, by decide⟩ (fun v11 t11 => ?_)
        refine lv_istore (lv' := [(4, .int v11), (0, .ref (G.2.2 1042)), (1, .int xv1), (2, .int xv2), (3, .int xv3), (5, .int xv5)]) C.1.1 C.1.2.1 dX8_isLike_99 hl (by decide) rfl (fun ls hl => ?_)
        obtain ⟨x_12, e12⟩ : ∃ z : Int, z = w32 (x5 + 1) := ⟨_, rfl⟩
        have h := h x_12 e12
        obtain ⟨v12, t12, g12⟩ : ∃ z : Int32, z.toInt = x_12 ∧ xv5 + Int32.ofInt 1 = z := ⟨_, (ti_inc xt5 ⟨by decide, by decide⟩).trans e12.symm, rfl⟩
        refine lv_iinc (v := v12) (lv' := [(5, .int v12), (4, .int v11), (0, .ref (G.2.2 1042)), (1, .int xv1), (2, .int xv2), (3, .int xv3)]) C.1.1 C.1.2.1 dX8_isLike_101 hl (k := 5) rfl g12 (by decide) rfl (fun ls hl => ?_)
        refine lv_goto (tgt := 55) C.1.1 C.1.2.1 dX8_isLike_104 (by decide) ?_
        exact hP55 t11 t12 hw hS (lv_sub hl [2, 3, 4, 5, 1, 0] rfl) h
      · have h := h.2 c10
        refine y_iconst C dX8_isLike_94 ⟨by decide, by decide⟩ (fun v13 t13 => ?_)
        refine lv_goto (tgt := 99) C.1.1 C.1.2.1 dX8_isLike_95 (by decide) ?_
        refine lv_istore (lv' := [(4, .int v13), (0, .ref (G.2.2 1042)), (1, .int xv1), (2, .int xv2), (3, .int xv3), (5, .int xv5)]) C.1.1 C.1.2.1 dX8_isLike_99 hl (by decide) rfl (fun ls hl => ?_)
        obtain ⟨x_14, e14⟩ : ∃ z : Int, z = w32 (x5 + 1) := ⟨_, rfl⟩
        have h := h x_14 e14
        obtain ⟨v14, t14, g14⟩ : ∃ z : Int32, z.toInt = x_14 ∧ xv5 + Int32.ofInt 1 = z := ⟨_, (ti_inc xt5 ⟨by decide, by decide⟩).trans e14.symm, rfl⟩
        refine lv_iinc (v := v14) (lv' := [(5, .int v14), (4, .int v13), (0, .ref (G.2.2 1042)), (1, .int xv1), (2, .int xv2), (3, .int xv3)]) C.1.1 C.1.2.1 dX8_isLike_101 hl (k := 5) rfl g14 (by decide) rfl (fun ls hl => ?_)
        refine lv_goto (tgt := 55) C.1.1 C.1.2.1 dX8_isLike_104 (by decide) ?_
        exact hP55 t13 t14 hw hS (lv_sub hl [2, 3, 4, 5, 1, 0] rfl) h
set_option maxHeartbeats 4000000 in
set_option maxRecDepth 10000 in
theorem uX8_isLike_55 {p : Program} {l : Launch} {e : Env} {s : State} {m : MethodId} {args : Array Value} {below : List Frame} {meth : Method} {c : Code} {G : GG} {SB : St} (C : Cx p s m args meth c G RX8 cX8_isLike 6 (some .boolean)) {S : St} {H : Heap} {locs : List Loc} {ls : Array Slot}  {k : Int → Prop} (hw : Wd G ((injR SB) S) H) (hS : va_S (AG G) s.heap H locs) {xv1 : Int32} {x1 : Int} (xt1 : xv1.toInt = x1) {xv2 : Int32} {x2 : Int} (xt2 : xv2.toInt = x2) {xv3 : Int32} {x3 : Int} (xt3 : xv3.toInt = x3) {xv4 : Int32} {x4 : Int} (xt4 : xv4.toInt = x4) {xv5 : Int32} {x5 : Int} (xt5 : xv5.toInt = x5) (hl : lv_has ls 6 [(0, .ref (G.2.2 1042)), (1, .int xv1), (2, .int xv2), (3, .int xv3), (4, .int xv4), (5, .int xv5)])  (h : wX8_isLike_55 S x1 x2 x3 x4 x5 k) : W p l e (rmF 3 68) s m args below meth c H locs 0 0 (MQ below (QcI G (injR SB) (fun r u => k r ∧ u = S)) args s 0 0 (AG G)) (F0 m 55 ls []) := by
  have key : ∀ (n : Nat) {H : Heap} {locs : List Loc} {ls : Array Slot} {xv4 : Int32} {x4 : Int} {xv5 : Int32} {x5 : Int}, xv4.toInt = x4 → xv5.toInt = x5 → Wd G ((injR SB) S) H → va_S (AG G) s.heap H locs → lv_has ls 6 [(0, .ref (G.2.2 1042)), (1, .int xv1), (2, .int xv2), (3, .int xv3), (4, .int xv4), (5, .int xv5)] → itP (fun (P : Int × Int → Prop) (a : Int × Int) => wX8_isLike_55_b S x1 x2 x3 a.1 a.2 (fun b0 b1 => P (b0, b1)) k) n (x4, x5) → W p l e (rmF 3 68) s m args below meth c H locs 0 0 (MQ below (QcI G (injR SB) (fun r u => k r ∧ u = S)) args s 0 0 (AG G)) (F0 m 55 ls []) := by
    intro n
    induction n with
    | zero => intro H locs ls xv4 x4 xv5 x5 xt4 xt5 hw hS hl h; exact h.elim
    | succ n ih =>
      intro H locs ls xv4 x4 xv5 x5 xt4 xt5 hw hS hl h
      exact uX8_isLike_55_b C hw hS xt1 xt2 xt3 xt4 xt5 hl  (P55 := fun b0 b1 => itP _ n (b0, b1)) (fun q0 q1 hw hS hl h => ih q0 q1 hw hS hl h) h
  obtain ⟨n, hn⟩ := h
  exact key n xt4 xt5 hw hS hl hn
set_option maxHeartbeats 4000000 in
set_option maxRecDepth 10000 in
theorem uX8_isLike_0 {p : Program} {l : Launch} {e : Env} {s : State} {m : MethodId} {args : Array Value} {below : List Frame} {meth : Method} {c : Code} {G : GG} {SB : St} (C : Cx p s m args meth c G RX8 cX8_isLike 6 (some .boolean)) {S : St} {H : Heap} {locs : List Loc} {ls : Array Slot}  {k : Int → Prop} (hw : Wd G ((injR SB) S) H) (hS : va_S (AG G) s.heap H locs) {xv1 : Int32} {x1 : Int} (xt1 : xv1.toInt = x1) {xv2 : Int32} {x2 : Int} (xt2 : xv2.toInt = x2) {xv3 : Int32} {x3 : Int} (xt3 : xv3.toInt = x3) (hl : lv_has ls 6 [(0, .ref (G.2.2 1042)), (1, .int xv1), (2, .int xv2), (3, .int xv3)])  (h : wX8_isLike_0 S x1 x2 x3 k) : W p l e (rmF 3 68) s m args below meth c H locs 0 0 (MQ below (QcI G (injR SB) (fun r u => k r ∧ u = S)) args s 0 0 (AG G)) (F0 m 0 ls []) := by
  refine lv_aload_n C.1.1 C.1.2.1 dX8_isLike_0 rfl (lv_at hl 0 rfl) ?_
  refine y_getA C fl_X8_125 hw (ocr SB) rfl (o := 29) rfl dX8_isLike_1 ?_
  refine lv_aload_n C.1.1 C.1.2.1 dX8_isLike_4 rfl (lv_at hl 0 rfl) ?_
  refine lv_iload_n C.1.1 C.1.2.1 dX8_isLike_5 rfl (lv_at hl 2 rfl) ?_
  refine y_cVIp C (As := [.int xv2]) (rest := [.ref (G.2.2 (1071))]) ml_X8_218 (kX8_m l G SB S xt2 h) (ocr SB) (T := TX8) (N := 60) rfl (by decide) ⟨(Nat.le_of_ble_eq_true rfl), (Nat.le_of_ble_eq_true rfl)⟩ hl.1 rfl rfl (Nat.le_of_ble_eq_true rfl) hw hS dX8_isLike_6 (fun v2 x_2 H locs t2 h hw hS => ?_)
  obtain ⟨b3, h⟩ := h
  refine y_lald C hw (acr_38 SB) t2 b3 dX8_isLike_9 (fun v3 t3 => ?_)
  refine lv_aload_n C.1.1 C.1.2.1 dX8_isLike_10 rfl (lv_at hl 0 rfl) ?_
  refine y_getA C fl_X8_125 hw (ocr SB) rfl (o := 29) rfl dX8_isLike_11 ?_
  refine lv_aload_n C.1.1 C.1.2.1 dX8_isLike_14 rfl (lv_at hl 0 rfl) ?_
  refine lv_iload_n C.1.1 C.1.2.1 dX8_isLike_15 rfl (lv_at hl 3 rfl) ?_
  refine y_cVIp C (As := [.int xv3]) (rest := [.ref (G.2.2 (1071)), .long v3]) ml_X8_218 (kX8_m l G SB S xt3 h) (ocr SB) (T := TX8) (N := 60) rfl (by decide) ⟨(Nat.le_of_ble_eq_true rfl), (Nat.le_of_ble_eq_true rfl)⟩ hl.1 rfl rfl (Nat.le_of_ble_eq_true rfl) hw hS dX8_isLike_16 (fun v5 x_5 H locs t5 h hw hS => ?_)
  obtain ⟨b6, h⟩ := h
  refine y_lald C hw (acr_38 SB) t5 b6 dX8_isLike_19 (fun v6 t6 => ?_)
  refine y_lcmp C t3 t6 dX8_isLike_20 (fun v7 t7 => ?_)
  refine y_if_ne C t7 dX8_isLike_21 (tgt := 47) (by decide) (fun c8 => ?_) (fun c8 => ?_)
  · have c8 := cmp_ne.mp c8
    have h := h.1 c8
    refine y_iconst C dX8_isLike_47 ⟨by decide, by decide⟩ (fun v9 t9 => ?_)
    exact y_zret C hw hS t9 (Or.inl rfl) ⟨h, rfl⟩ dX8_isLike_48
  · have c8 := cmp_eq.mp c8
    have h := h.2 c8
    refine lv_aload_n C.1.1 C.1.2.1 dX8_isLike_24 rfl (lv_at hl 0 rfl) ?_
    refine y_getA C fl_X8_134 hw (ocr SB) rfl (o := 32) rfl dX8_isLike_25 ?_
    refine lv_aload_n C.1.1 C.1.2.1 dX8_isLike_28 rfl (lv_at hl 0 rfl) ?_
    refine lv_iload_n C.1.1 C.1.2.1 dX8_isLike_29 rfl (lv_at hl 2 rfl) ?_
    refine y_cVIp C (As := [.int xv2]) (rest := [.ref (G.2.2 (1074))]) ml_X8_218 (kX8_m l G SB S xt2 h) (ocr SB) (T := TX8) (N := 60) rfl (by decide) ⟨(Nat.le_of_ble_eq_true rfl), (Nat.le_of_ble_eq_true rfl)⟩ hl.1 rfl rfl (Nat.le_of_ble_eq_true rfl) hw hS dX8_isLike_30 (fun v11 x_11 H locs t11 h hw hS => ?_)
    obtain ⟨b12, h⟩ := h
    refine y_iald C hw (acr_41 SB) t11 b12 dX8_isLike_33 (fun v12 t12 => ?_)
    refine lv_aload_n C.1.1 C.1.2.1 dX8_isLike_34 rfl (lv_at hl 0 rfl) ?_
    refine y_getA C fl_X8_134 hw (ocr SB) rfl (o := 32) rfl dX8_isLike_35 ?_
    refine lv_aload_n C.1.1 C.1.2.1 dX8_isLike_38 rfl (lv_at hl 0 rfl) ?_
    refine lv_iload_n C.1.1 C.1.2.1 dX8_isLike_39 rfl (lv_at hl 3 rfl) ?_
    refine y_cVIp C (As := [.int xv3]) (rest := [.ref (G.2.2 (1074)), .int v12]) ml_X8_218 (kX8_m l G SB S xt3 h) (ocr SB) (T := TX8) (N := 60) rfl (by decide) ⟨(Nat.le_of_ble_eq_true rfl), (Nat.le_of_ble_eq_true rfl)⟩ hl.1 rfl rfl (Nat.le_of_ble_eq_true rfl) hw hS dX8_isLike_40 (fun v14 x_14 H locs t14 h hw hS => ?_)
    obtain ⟨b15, h⟩ := h
    refine y_iald C hw (acr_41 SB) t14 b15 dX8_isLike_43 (fun v15 t15 => ?_)
    refine y_icmp_eq C t12 t15 dX8_isLike_44 (tgt := 49) (by decide) (fun c16 => ?_) (fun c16 => ?_)
    · have h := h.1 c16
      refine y_iconst C dX8_isLike_49 ⟨by decide, by decide⟩ (fun v17 t17 => ?_)
      refine lv_istore (lv' := [(4, .int v17), (0, .ref (G.2.2 1042)), (1, .int xv1), (2, .int xv2), (3, .int xv3)]) C.1.1 C.1.2.1 dX8_isLike_50 hl (by decide) rfl (fun ls hl => ?_)
      refine y_iconst C dX8_isLike_52 ⟨by decide, by decide⟩ (fun v18 t18 => ?_)
      refine lv_istore (lv' := [(5, .int v18), (4, .int v17), (0, .ref (G.2.2 1042)), (1, .int xv1), (2, .int xv2), (3, .int xv3)]) C.1.1 C.1.2.1 dX8_isLike_53 hl (by decide) rfl (fun ls hl => ?_)
      exact uX8_isLike_55 C hw hS xt1 xt2 xt3 t17 t18 (lv_sub hl [2, 3, 4, 5, 1, 0] rfl)  h
    · have h := h.2 c16
      refine y_iconst C dX8_isLike_47 ⟨by decide, by decide⟩ (fun v19 t19 => ?_)
      exact y_zret C hw hS t19 (Or.inl rfl) ⟨h, rfl⟩ dX8_isLike_48
theorem kX8_isLike (l : Launch) (G : GG) (SB S : St) {xv1 : Int32} {x1 : Int} (xt1 : xv1.toInt = x1) {xv2 : Int32} {x2 : Int} (xt2 : xv2.toInt = x2) {xv3 : Int32} {x3 : Int} (xt3 : xv3.toInt = x3) {k : Int → Prop} (h : wX8_isLike S x1 x2 x3 k) : CnI l yX8_isLike cX8_isLike 6 (some .boolean) 3 68 G (injR SB) [.ref (G.2.2 1042), .int xv1, .int xv2, .int xv3] S (fun r u => k r ∧ u = S) :=
  cn_body (by decide +kernel) (Nat.le_of_ble_eq_true rfl) (fun p e s m args below meth c ls C hw hl => uX8_isLike_0 C hw va_S.rf xt1 xt2 xt3 (lv_sub hl [0, 1, 2, 3] rfl) h)
set_option maxHeartbeats 4000000 in
set_option maxRecDepth 10000 in
theorem uX8_isErasedLike_54_b {p : Program} {l : Launch} {e : Env} {s : State} {m : MethodId} {args : Array Value} {below : List Frame} {meth : Method} {c : Code} {G : GG} {SB : St} (C : Cx p s m args meth c G RX8 cX8_isErasedLike 5 (some .boolean)) {S : St} {H : Heap} {locs : List Loc} {ls : Array Slot}  {P54 : Int → Int → Prop} {k : Int → Prop} (hw : Wd G ((injR SB) S) H) (hS : va_S (AG G) s.heap H locs) {xv1 : Int32} {x1 : Int} (xt1 : xv1.toInt = x1) {xv2 : Int32} {x2 : Int} (xt2 : xv2.toInt = x2) {xv3 : Int32} {x3 : Int} (xt3 : xv3.toInt = x3) {xv4 : Int32} {x4 : Int} (xt4 : xv4.toInt = x4) (hl : lv_has ls 5 [(0, .ref (G.2.2 1042)), (1, .int xv1), (2, .int xv2), (3, .int xv3), (4, .int xv4)])  (hP54 : ∀ {H : Heap} {locs : List Loc} {ls : Array Slot} {yv3 : Int32} {y3 : Int} {yv4 : Int32} {y4 : Int}, yv3.toInt = y3 → yv4.toInt = y4 → Wd G ((injR SB) S) H → va_S (AG G) s.heap H locs → lv_has ls 5 [(0, .ref (G.2.2 1042)), (1, .int xv1), (2, .int xv2), (3, .int yv3), (4, .int yv4)] → P54 y3 y4 → W p l e (rmF 3 65) s m args below meth c H locs 0 0 (MQ below (QcI G (injR SB) (fun r u => k r ∧ u = S)) args s 0 0 (AG G)) (F0 m 54 ls [])) (h : wX8_isErasedLike_54_b S x1 x2 x3 x4 P54 k) : W p l e (rmF 3 65) s m args below meth c H locs 0 0 (MQ below (QcI G (injR SB) (fun r u => k r ∧ u = S)) args s 0 0 (AG G)) (F0 m 54 ls []) := by
  refine lv_iload C.1.1 C.1.2.1 dX8_isErasedLike_54 (lv_at hl 4 rfl) ?_
  refine lv_aload_n C.1.1 C.1.2.1 dX8_isErasedLike_56 rfl (lv_at hl 0 rfl) ?_
  refine y_getA C fl_X8_134 hw (ocr SB) rfl (o := 32) rfl dX8_isErasedLike_57 ?_
  refine lv_aload_n C.1.1 C.1.2.1 dX8_isErasedLike_60 rfl (lv_at hl 0 rfl) ?_
  refine lv_iload_n C.1.1 C.1.2.1 dX8_isErasedLike_61 rfl (lv_at hl 1 rfl) ?_
  refine y_cVIp C (As := [.int xv1]) (rest := [.ref (G.2.2 (1074)), .int xv4]) ml_X8_218 (kX8_m l G SB S xt1 h) (ocr SB) (T := TX8) (N := 60) rfl (by decide) ⟨(Nat.le_of_ble_eq_true rfl), (Nat.le_of_ble_eq_true rfl)⟩ hl.1 rfl rfl (Nat.le_of_ble_eq_true rfl) hw hS dX8_isErasedLike_62 (fun v2 x_2 H locs t2 h hw hS => ?_)
  obtain ⟨b3, h⟩ := h
  refine y_iald C hw (acr_41 SB) t2 b3 dX8_isErasedLike_65 (fun v3 t3 => ?_)
  refine y_icmp_ge C xt4 t3 dX8_isErasedLike_66 (tgt := 102) (by decide) (fun c4 => ?_) (fun c4 => ?_)
  · have h := h.1 c4
    refine lv_iload_n C.1.1 C.1.2.1 dX8_isErasedLike_102 rfl (lv_at hl 3 rfl) ?_
    obtain ⟨z, h⟩ := h
    exact y_zret C hw hS xt3 z ⟨h, rfl⟩ dX8_isErasedLike_103
  · have h := h.2 c4
    refine lv_iload_n C.1.1 C.1.2.1 dX8_isErasedLike_69 rfl (lv_at hl 3 rfl) ?_
    refine y_if_eq C xt3 dX8_isErasedLike_70 (tgt := 94) (by decide) (fun c5 => ?_) (fun c5 => ?_)
    · have h := h.1 c5
      refine y_iconst C dX8_isErasedLike_94 ⟨by decide, by decide⟩ (fun v6 t6 => ?_)
      refine lv_istore_n (lv' := [(3, .int v6), (0, .ref (G.2.2 1042)), (1, .int xv1), (2, .int xv2), (4, .int xv4)]) C.1.1 C.1.2.1 dX8_isErasedLike_95 rfl hl (by decide) rfl (fun ls hl => ?_)
      obtain ⟨x_7, e7⟩ : ∃ z : Int, z = w32 (x4 + 1) := ⟨_, rfl⟩
      have h := h x_7 e7
      obtain ⟨v7, t7, g7⟩ : ∃ z : Int32, z.toInt = x_7 ∧ xv4 + Int32.ofInt 1 = z := ⟨_, (ti_inc xt4 ⟨by decide, by decide⟩).trans e7.symm, rfl⟩
      refine lv_iinc (v := v7) (lv' := [(4, .int v7), (3, .int v6), (0, .ref (G.2.2 1042)), (1, .int xv1), (2, .int xv2)]) C.1.1 C.1.2.1 dX8_isErasedLike_96 hl (k := 4) rfl g7 (by decide) rfl (fun ls hl => ?_)
      refine lv_goto (tgt := 54) C.1.1 C.1.2.1 dX8_isErasedLike_99 (by decide) ?_
      exact hP54 t6 t7 hw hS (lv_sub hl [2, 3, 4, 1, 0] rfl) h
    · have h := h.2 c5
      refine lv_aload_n C.1.1 C.1.2.1 dX8_isErasedLike_73 rfl (lv_at hl 0 rfl) ?_
      refine lv_iload_n C.1.1 C.1.2.1 dX8_isErasedLike_74 rfl (lv_at hl 1 rfl) ?_
      refine lv_iload C.1.1 C.1.2.1 dX8_isErasedLike_75 (lv_at hl 4 rfl) ?_
      refine y_cVIp C (As := [.int xv1, .int xv4]) (rest := []) ml_X8_232 (kX8_kindErased l G SB S xt1 xt4 h) (ocr SB) (T := TX8) (N := 60) rfl (by decide) ⟨(Nat.le_of_ble_eq_true rfl), (Nat.le_of_ble_eq_true rfl)⟩ hl.1 rfl rfl (Nat.le_of_ble_eq_true rfl) hw hS dX8_isErasedLike_77 (fun v8 x_8 H locs t8 h hw hS => ?_)
      refine lv_aload_n C.1.1 C.1.2.1 dX8_isErasedLike_80 rfl (lv_at hl 0 rfl) ?_
      refine lv_iload_n C.1.1 C.1.2.1 dX8_isErasedLike_81 rfl (lv_at hl 2 rfl) ?_
      refine lv_iload C.1.1 C.1.2.1 dX8_isErasedLike_82 (lv_at hl 4 rfl) ?_
      refine y_cVIp C (As := [.int xv2, .int xv4]) (rest := [.int v8]) ml_X8_232 (kX8_kindErased l G SB S xt2 xt4 h) (ocr SB) (T := TX8) (N := 60) rfl (by decide) ⟨(Nat.le_of_ble_eq_true rfl), (Nat.le_of_ble_eq_true rfl)⟩ hl.1 rfl rfl (Nat.le_of_ble_eq_true rfl) hw hS dX8_isErasedLike_84 (fun v9 x_9 H locs t9 h hw hS => ?_)
      refine y_icmp_ne C t8 t9 dX8_isErasedLike_87 (tgt := 94) (by decide) (fun c10 => ?_) (fun c10 => ?_)
      · have h := h.1 c10
        refine y_iconst C dX8_isErasedLike_94 ⟨by decide, by decide⟩ (fun v11 t11 => ?_)
        refine lv_istore_n (lv' := [(3, .int v11), (0, .ref (G.2.2 1042)), (1, .int xv1), (2, .int xv2), (4, .int xv4)]) C.1.1 C.1.2.1 dX8_isErasedLike_95 rfl hl (by decide) rfl (fun ls hl => ?_)
        obtain ⟨x_12, e12⟩ : ∃ z : Int, z = w32 (x4 + 1) := ⟨_, rfl⟩
        have h := h x_12 e12
        obtain ⟨v12, t12, g12⟩ : ∃ z : Int32, z.toInt = x_12 ∧ xv4 + Int32.ofInt 1 = z := ⟨_, (ti_inc xt4 ⟨by decide, by decide⟩).trans e12.symm, rfl⟩
        refine lv_iinc (v := v12) (lv' := [(4, .int v12), (3, .int v11), (0, .ref (G.2.2 1042)), (1, .int xv1), (2, .int xv2)]) C.1.1 C.1.2.1 dX8_isErasedLike_96 hl (k := 4) rfl g12 (by decide) rfl (fun ls hl => ?_)
        refine lv_goto (tgt := 54) C.1.1 C.1.2.1 dX8_isErasedLike_99 (by decide) ?_
        exact hP54 t11 t12 hw hS (lv_sub hl [2, 3, 4, 1, 0] rfl) h
      · have h := h.2 c10
        refine y_iconst C dX8_isErasedLike_90 ⟨by decide, by decide⟩ (fun v13 t13 => ?_)
        refine lv_goto (tgt := 95) C.1.1 C.1.2.1 dX8_isErasedLike_91 (by decide) ?_
        refine lv_istore_n (lv' := [(3, .int v13), (0, .ref (G.2.2 1042)), (1, .int xv1), (2, .int xv2), (4, .int xv4)]) C.1.1 C.1.2.1 dX8_isErasedLike_95 rfl hl (by decide) rfl (fun ls hl => ?_)
        obtain ⟨x_14, e14⟩ : ∃ z : Int, z = w32 (x4 + 1) := ⟨_, rfl⟩
        have h := h x_14 e14
        obtain ⟨v14, t14, g14⟩ : ∃ z : Int32, z.toInt = x_14 ∧ xv4 + Int32.ofInt 1 = z := ⟨_, (ti_inc xt4 ⟨by decide, by decide⟩).trans e14.symm, rfl⟩
        refine lv_iinc (v := v14) (lv' := [(4, .int v14), (3, .int v13), (0, .ref (G.2.2 1042)), (1, .int xv1), (2, .int xv2)]) C.1.1 C.1.2.1 dX8_isErasedLike_96 hl (k := 4) rfl g14 (by decide) rfl (fun ls hl => ?_)
        refine lv_goto (tgt := 54) C.1.1 C.1.2.1 dX8_isErasedLike_99 (by decide) ?_
        exact hP54 t13 t14 hw hS (lv_sub hl [2, 3, 4, 1, 0] rfl) h
set_option maxHeartbeats 4000000 in
set_option maxRecDepth 10000 in
theorem uX8_isErasedLike_54 {p : Program} {l : Launch} {e : Env} {s : State} {m : MethodId} {args : Array Value} {below : List Frame} {meth : Method} {c : Code} {G : GG} {SB : St} (C : Cx p s m args meth c G RX8 cX8_isErasedLike 5 (some .boolean)) {S : St} {H : Heap} {locs : List Loc} {ls : Array Slot}  {k : Int → Prop} (hw : Wd G ((injR SB) S) H) (hS : va_S (AG G) s.heap H locs) {xv1 : Int32} {x1 : Int} (xt1 : xv1.toInt = x1) {xv2 : Int32} {x2 : Int} (xt2 : xv2.toInt = x2) {xv3 : Int32} {x3 : Int} (xt3 : xv3.toInt = x3) {xv4 : Int32} {x4 : Int} (xt4 : xv4.toInt = x4) (hl : lv_has ls 5 [(0, .ref (G.2.2 1042)), (1, .int xv1), (2, .int xv2), (3, .int xv3), (4, .int xv4)])  (h : wX8_isErasedLike_54 S x1 x2 x3 x4 k) : W p l e (rmF 3 65) s m args below meth c H locs 0 0 (MQ below (QcI G (injR SB) (fun r u => k r ∧ u = S)) args s 0 0 (AG G)) (F0 m 54 ls []) := by
  have key : ∀ (n : Nat) {H : Heap} {locs : List Loc} {ls : Array Slot} {xv3 : Int32} {x3 : Int} {xv4 : Int32} {x4 : Int}, xv3.toInt = x3 → xv4.toInt = x4 → Wd G ((injR SB) S) H → va_S (AG G) s.heap H locs → lv_has ls 5 [(0, .ref (G.2.2 1042)), (1, .int xv1), (2, .int xv2), (3, .int xv3), (4, .int xv4)] → itP (fun (P : Int × Int → Prop) (a : Int × Int) => wX8_isErasedLike_54_b S x1 x2 a.1 a.2 (fun b0 b1 => P (b0, b1)) k) n (x3, x4) → W p l e (rmF 3 65) s m args below meth c H locs 0 0 (MQ below (QcI G (injR SB) (fun r u => k r ∧ u = S)) args s 0 0 (AG G)) (F0 m 54 ls []) := by
    intro n
    induction n with
    | zero => intro H locs ls xv3 x3 xv4 x4 xt3 xt4 hw hS hl h; exact h.elim
    | succ n ih =>
      intro H locs ls xv3 x3 xv4 x4 xt3 xt4 hw hS hl h
      exact uX8_isErasedLike_54_b C hw hS xt1 xt2 xt3 xt4 hl  (P54 := fun b0 b1 => itP _ n (b0, b1)) (fun q0 q1 hw hS hl h => ih q0 q1 hw hS hl h) h
  obtain ⟨n, hn⟩ := h
  exact key n xt3 xt4 hw hS hl hn
set_option maxHeartbeats 4000000 in
set_option maxRecDepth 10000 in
theorem uX8_isErasedLike_0 {p : Program} {l : Launch} {e : Env} {s : State} {m : MethodId} {args : Array Value} {below : List Frame} {meth : Method} {c : Code} {G : GG} {SB : St} (C : Cx p s m args meth c G RX8 cX8_isErasedLike 5 (some .boolean)) {S : St} {H : Heap} {locs : List Loc} {ls : Array Slot}  {k : Int → Prop} (hw : Wd G ((injR SB) S) H) (hS : va_S (AG G) s.heap H locs) {xv1 : Int32} {x1 : Int} (xt1 : xv1.toInt = x1) {xv2 : Int32} {x2 : Int} (xt2 : xv2.toInt = x2) (hl : lv_has ls 5 [(0, .ref (G.2.2 1042)), (1, .int xv1), (2, .int xv2)])  (h : wX8_isErasedLike_0 S x1 x2 k) : W p l e (rmF 3 65) s m args below meth c H locs 0 0 (MQ below (QcI G (injR SB) (fun r u => k r ∧ u = S)) args s 0 0 (AG G)) (F0 m 0 ls []) := by
  refine lv_aload_n C.1.1 C.1.2.1 dX8_isErasedLike_0 rfl (lv_at hl 0 rfl) ?_
  refine y_getA C fl_X8_125 hw (ocr SB) rfl (o := 29) rfl dX8_isErasedLike_1 ?_
  refine lv_aload_n C.1.1 C.1.2.1 dX8_isErasedLike_4 rfl (lv_at hl 0 rfl) ?_
  refine lv_iload_n C.1.1 C.1.2.1 dX8_isErasedLike_5 rfl (lv_at hl 1 rfl) ?_
  refine y_cVIp C (As := [.int xv1]) (rest := [.ref (G.2.2 (1071))]) ml_X8_218 (kX8_m l G SB S xt1 h) (ocr SB) (T := TX8) (N := 60) rfl (by decide) ⟨(Nat.le_of_ble_eq_true rfl), (Nat.le_of_ble_eq_true rfl)⟩ hl.1 rfl rfl (Nat.le_of_ble_eq_true rfl) hw hS dX8_isErasedLike_6 (fun v2 x_2 H locs t2 h hw hS => ?_)
  obtain ⟨b3, h⟩ := h
  refine y_lald C hw (acr_38 SB) t2 b3 dX8_isErasedLike_9 (fun v3 t3 => ?_)
  refine lv_aload_n C.1.1 C.1.2.1 dX8_isErasedLike_10 rfl (lv_at hl 0 rfl) ?_
  refine y_getA C fl_X8_125 hw (ocr SB) rfl (o := 29) rfl dX8_isErasedLike_11 ?_
  refine lv_aload_n C.1.1 C.1.2.1 dX8_isErasedLike_14 rfl (lv_at hl 0 rfl) ?_
  refine lv_iload_n C.1.1 C.1.2.1 dX8_isErasedLike_15 rfl (lv_at hl 2 rfl) ?_
  refine y_cVIp C (As := [.int xv2]) (rest := [.ref (G.2.2 (1071)), .long v3]) ml_X8_218 (kX8_m l G SB S xt2 h) (ocr SB) (T := TX8) (N := 60) rfl (by decide) ⟨(Nat.le_of_ble_eq_true rfl), (Nat.le_of_ble_eq_true rfl)⟩ hl.1 rfl rfl (Nat.le_of_ble_eq_true rfl) hw hS dX8_isErasedLike_16 (fun v5 x_5 H locs t5 h hw hS => ?_)
  obtain ⟨b6, h⟩ := h
  refine y_lald C hw (acr_38 SB) t5 b6 dX8_isErasedLike_19 (fun v6 t6 => ?_)
  refine y_lcmp C t3 t6 dX8_isErasedLike_20 (fun v7 t7 => ?_)
  refine y_if_ne C t7 dX8_isErasedLike_21 (tgt := 47) (by decide) (fun c8 => ?_) (fun c8 => ?_)
  · have c8 := cmp_ne.mp c8
    have h := h.1 c8
    refine y_iconst C dX8_isErasedLike_47 ⟨by decide, by decide⟩ (fun v9 t9 => ?_)
    exact y_zret C hw hS t9 (Or.inl rfl) ⟨h, rfl⟩ dX8_isErasedLike_48
  · have c8 := cmp_eq.mp c8
    have h := h.2 c8
    refine lv_aload_n C.1.1 C.1.2.1 dX8_isErasedLike_24 rfl (lv_at hl 0 rfl) ?_
    refine y_getA C fl_X8_134 hw (ocr SB) rfl (o := 32) rfl dX8_isErasedLike_25 ?_
    refine lv_aload_n C.1.1 C.1.2.1 dX8_isErasedLike_28 rfl (lv_at hl 0 rfl) ?_
    refine lv_iload_n C.1.1 C.1.2.1 dX8_isErasedLike_29 rfl (lv_at hl 1 rfl) ?_
    refine y_cVIp C (As := [.int xv1]) (rest := [.ref (G.2.2 (1074))]) ml_X8_218 (kX8_m l G SB S xt1 h) (ocr SB) (T := TX8) (N := 60) rfl (by decide) ⟨(Nat.le_of_ble_eq_true rfl), (Nat.le_of_ble_eq_true rfl)⟩ hl.1 rfl rfl (Nat.le_of_ble_eq_true rfl) hw hS dX8_isErasedLike_30 (fun v11 x_11 H locs t11 h hw hS => ?_)
    obtain ⟨b12, h⟩ := h
    refine y_iald C hw (acr_41 SB) t11 b12 dX8_isErasedLike_33 (fun v12 t12 => ?_)
    refine lv_aload_n C.1.1 C.1.2.1 dX8_isErasedLike_34 rfl (lv_at hl 0 rfl) ?_
    refine y_getA C fl_X8_134 hw (ocr SB) rfl (o := 32) rfl dX8_isErasedLike_35 ?_
    refine lv_aload_n C.1.1 C.1.2.1 dX8_isErasedLike_38 rfl (lv_at hl 0 rfl) ?_
    refine lv_iload_n C.1.1 C.1.2.1 dX8_isErasedLike_39 rfl (lv_at hl 2 rfl) ?_
    refine y_cVIp C (As := [.int xv2]) (rest := [.ref (G.2.2 (1074)), .int v12]) ml_X8_218 (kX8_m l G SB S xt2 h) (ocr SB) (T := TX8) (N := 60) rfl (by decide) ⟨(Nat.le_of_ble_eq_true rfl), (Nat.le_of_ble_eq_true rfl)⟩ hl.1 rfl rfl (Nat.le_of_ble_eq_true rfl) hw hS dX8_isErasedLike_40 (fun v14 x_14 H locs t14 h hw hS => ?_)
    obtain ⟨b15, h⟩ := h
    refine y_iald C hw (acr_41 SB) t14 b15 dX8_isErasedLike_43 (fun v15 t15 => ?_)
    refine y_icmp_eq C t12 t15 dX8_isErasedLike_44 (tgt := 49) (by decide) (fun c16 => ?_) (fun c16 => ?_)
    · have h := h.1 c16
      refine y_iconst C dX8_isErasedLike_49 ⟨by decide, by decide⟩ (fun v17 t17 => ?_)
      refine lv_istore_n (lv' := [(3, .int v17), (0, .ref (G.2.2 1042)), (1, .int xv1), (2, .int xv2)]) C.1.1 C.1.2.1 dX8_isErasedLike_50 rfl hl (by decide) rfl (fun ls hl => ?_)
      refine y_iconst C dX8_isErasedLike_51 ⟨by decide, by decide⟩ (fun v18 t18 => ?_)
      refine lv_istore (lv' := [(4, .int v18), (3, .int v17), (0, .ref (G.2.2 1042)), (1, .int xv1), (2, .int xv2)]) C.1.1 C.1.2.1 dX8_isErasedLike_52 hl (by decide) rfl (fun ls hl => ?_)
      exact uX8_isErasedLike_54 C hw hS xt1 xt2 t17 t18 (lv_sub hl [2, 3, 4, 1, 0] rfl)  h
    · have h := h.2 c16
      refine y_iconst C dX8_isErasedLike_47 ⟨by decide, by decide⟩ (fun v19 t19 => ?_)
      exact y_zret C hw hS t19 (Or.inl rfl) ⟨h, rfl⟩ dX8_isErasedLike_48
theorem kX8_isErasedLike (l : Launch) (G : GG) (SB S : St) {xv1 : Int32} {x1 : Int} (xt1 : xv1.toInt = x1) {xv2 : Int32} {x2 : Int} (xt2 : xv2.toInt = x2) {k : Int → Prop} (h : wX8_isErasedLike S x1 x2 k) : CnI l yX8_isErasedLike cX8_isErasedLike 5 (some .boolean) 3 65 G (injR SB) [.ref (G.2.2 1042), .int xv1, .int xv2] S (fun r u => k r ∧ u = S) :=
  cn_body (by decide +kernel) (Nat.le_of_ble_eq_true rfl) (fun p e s m args below meth c ls C hw hl => uX8_isErasedLike_0 C hw va_S.rf xt1 xt2 (lv_sub hl [0, 1, 2] rfl) h)
set_option maxHeartbeats 4000000 in
set_option maxRecDepth 10000 in
theorem uX8_isSought_0 {p : Program} {l : Launch} {e : Env} {s : State} {m : MethodId} {args : Array Value} {below : List Frame} {meth : Method} {c : Code} {G : GG} {SB : St} (C : Cx p s m args meth c G RX8 cX8_isSought 3 (some .boolean)) {S : St} {H : Heap} {locs : List Loc} {ls : Array Slot}  {k : Int → Prop} (hw : Wd G ((injR SB) S) H) (hS : va_S (AG G) s.heap H locs) {xv1 : Int32} {x1 : Int} (xt1 : xv1.toInt = x1) {xv2 : Int32} {x2 : Int} (xt2 : xv2.toInt = x2) (hl : lv_has ls 3 [(0, .ref (G.2.2 1042)), (1, .int xv1), (2, .int xv2)])  (h : wX8_isSought_0 S x1 x2 k) : W p l e (rmF 4 89) s m args below meth c H locs 0 0 (MQ below (QcI G (injR SB) (fun r u => k r ∧ u = S)) args s 0 0 (AG G)) (F0 m 0 ls []) := by
  refine lv_aload_n C.1.1 C.1.2.1 dX8_isSought_0 rfl (lv_at hl 0 rfl) ?_
  refine lv_iload_n C.1.1 C.1.2.1 dX8_isSought_1 rfl (lv_at hl 1 rfl) ?_
  refine lv_iload_n C.1.1 C.1.2.1 dX8_isSought_2 rfl (lv_at hl 2 rfl) ?_
  refine y_cVIp C (As := [.int xv1, .int xv2]) (rest := []) ml_X8_235 (kX8_isErasedLike l G SB S xt1 xt2 h) (ocr SB) (T := TX8) (N := 60) rfl (by decide) ⟨(Nat.le_of_ble_eq_true rfl), (Nat.le_of_ble_eq_true rfl)⟩ hl.1 rfl rfl (Nat.le_of_ble_eq_true rfl) hw hS dX8_isSought_3 (fun v1 x_1 H locs t1 h hw hS => ?_)
  refine y_if_eq C t1 dX8_isSought_6 (tgt := 28) (by decide) (fun c2 => ?_) (fun c2 => ?_)
  · have h := h.1 c2
    refine y_iconst C dX8_isSought_28 ⟨by decide, by decide⟩ (fun v3 t3 => ?_)
    exact y_zret C hw hS t3 (Or.inl rfl) ⟨h, rfl⟩ dX8_isSought_29
  · have h := h.2 c2
    refine lv_aload_n C.1.1 C.1.2.1 dX8_isSought_9 rfl (lv_at hl 0 rfl) ?_
    refine lv_iload_n C.1.1 C.1.2.1 dX8_isSought_10 rfl (lv_at hl 1 rfl) ?_
    refine y_iconst C dX8_isSought_11 ⟨by decide, by decide⟩ (fun v4 t4 => ?_)
    refine y_cVIp C (As := [.int xv1, .int v4]) (rest := []) ml_X8_232 (kX8_kindErased l G SB S xt1 t4 h) (ocr SB) (T := TX8) (N := 60) rfl (by decide) ⟨(Nat.le_of_ble_eq_true rfl), (Nat.le_of_ble_eq_true rfl)⟩ hl.1 rfl rfl (Nat.le_of_ble_eq_true rfl) hw hS dX8_isSought_12 (fun v5 x_5 H locs t5 h hw hS => ?_)
    refine lv_aload_n C.1.1 C.1.2.1 dX8_isSought_15 rfl (lv_at hl 0 rfl) ?_
    refine lv_iload_n C.1.1 C.1.2.1 dX8_isSought_16 rfl (lv_at hl 2 rfl) ?_
    refine y_iconst C dX8_isSought_17 ⟨by decide, by decide⟩ (fun v6 t6 => ?_)
    refine y_cVIp C (As := [.int xv2, .int v6]) (rest := [.int v5]) ml_X8_232 (kX8_kindErased l G SB S xt2 t6 h) (ocr SB) (T := TX8) (N := 60) rfl (by decide) ⟨(Nat.le_of_ble_eq_true rfl), (Nat.le_of_ble_eq_true rfl)⟩ hl.1 rfl rfl (Nat.le_of_ble_eq_true rfl) hw hS dX8_isSought_18 (fun v7 x_7 H locs t7 h hw hS => ?_)
    refine y_icmp_ne C t5 t7 dX8_isSought_21 (tgt := 28) (by decide) (fun c8 => ?_) (fun c8 => ?_)
    · have h := h.1 c8
      refine y_iconst C dX8_isSought_28 ⟨by decide, by decide⟩ (fun v9 t9 => ?_)
      exact y_zret C hw hS t9 (Or.inl rfl) ⟨h, rfl⟩ dX8_isSought_29
    · have h := h.2 c8
      refine y_iconst C dX8_isSought_24 ⟨by decide, by decide⟩ (fun v10 t10 => ?_)
      refine lv_goto (tgt := 29) C.1.1 C.1.2.1 dX8_isSought_25 (by decide) ?_
      exact y_zret C hw hS t10 (Or.inr rfl) ⟨h, rfl⟩ dX8_isSought_29
theorem kX8_isSought (l : Launch) (G : GG) (SB S : St) {xv1 : Int32} {x1 : Int} (xt1 : xv1.toInt = x1) {xv2 : Int32} {x2 : Int} (xt2 : xv2.toInt = x2) {k : Int → Prop} (h : wX8_isSought S x1 x2 k) : CnI l yX8_isSought cX8_isSought 3 (some .boolean) 4 89 G (injR SB) [.ref (G.2.2 1042), .int xv1, .int xv2] S (fun r u => k r ∧ u = S) :=
  cn_body (by decide +kernel) (Nat.le_of_ble_eq_true rfl) (fun p e s m args below meth c ls C hw hl => uX8_isSought_0 C hw va_S.rf xt1 xt2 (lv_sub hl [0, 1, 2] rfl) h)
set_option maxHeartbeats 4000000 in
set_option maxRecDepth 10000 in
theorem uX8_seenType_61 {p : Program} {l : Launch} {e : Env} {s : State} {m : MethodId} {args : Array Value} {below : List Frame} {meth : Method} {c : Code} {G : GG} {SB : St} (C : Cx p s m args meth c G RX8 cX8_seenType 7 (some .int)) {S : St} {H : Heap} {locs : List Loc} {ls : Array Slot} {P6 : Int → Int → Prop} {k : Int → Prop} (hw : Wd G ((injR SB) S) H) (hS : va_S (AG G) s.heap H locs) {xv1 : Int64} {x1 : Int} (xt1 : xv1.toInt = x1) {xv3 : Int32} {x3 : Int} (xt3 : xv3.toInt = x3) {xv4 : Int32} {x4 : Int} (xt4 : xv4.toInt = x4) {xv5 : Int32} {x5 : Int} (xt5 : xv5.toInt = x5) {sv0 : Int32} {s0 : Int} (st0 : sv0.toInt = s0) (hl : lv_has ls 7 [(0, .ref (G.2.2 1042)), (1, .long xv1), (3, .int xv3), (4, .int xv4), (5, .int xv5)]) (hP6 : ∀ {H : Heap} {locs : List Loc} {ls : Array Slot} {yv4 : Int32} {y4 : Int} {yv5 : Int32} {y5 : Int}, yv4.toInt = y4 → yv5.toInt = y5 → Wd G ((injR SB) S) H → va_S (AG G) s.heap H locs → lv_has ls 7 [(0, .ref (G.2.2 1042)), (1, .long xv1), (3, .int xv3), (4, .int yv4), (5, .int yv5)] → P6 y4 y5 → W p l e (rmF 1 21) s m args below meth c H locs 0 0 (MQ below (QcI G (injR SB) (fun r u => k r ∧ u = S)) args s 0 0 (AG G)) (F0 m 6 ls [])) (h : wX8_seenType_61 S x1 x3 x4 x5 s0 P6 k) : W p l e (rmF 1 21) s m args below meth c H locs 0 0 (MQ below (QcI G (injR SB) (fun r u => k r ∧ u = S)) args s 0 0 (AG G)) (F0 m 61 ls [.int sv0]) := by
  refine lv_istore (lv' := [(6, .int sv0), (0, .ref (G.2.2 1042)), (1, .long xv1), (3, .int xv3), (4, .int xv4), (5, .int xv5)]) C.1.1 C.1.2.1 dX8_seenType_61 hl (by decide) rfl (fun ls hl => ?_)
  refine lv_aload_n C.1.1 C.1.2.1 dX8_seenType_63 rfl (lv_at hl 1 rfl) ?_
  refine y_getA C fl_X8_61 hw (ocr SB) rfl (o := 8) rfl dX8_seenType_64 ?_
  refine lv_aload_n C.1.1 C.1.2.1 dX8_seenType_67 rfl (lv_at hl 1 rfl) ?_
  refine lv_iload C.1.1 C.1.2.1 dX8_seenType_68 (lv_at hl 5 rfl) ?_
  refine y_cVIp C (As := [.int xv5]) (rest := [.ref (G.2.2 (1050))]) ml_X8_214 (kX8_t l G SB S xt5 h) (ocr SB) (T := TX8) (N := 60) rfl (by decide) ⟨(Nat.le_of_ble_eq_true rfl), (Nat.le_of_ble_eq_true rfl)⟩ hl.1 rfl rfl (Nat.le_of_ble_eq_true rfl) hw hS dX8_seenType_70 (fun v2 x_2 H locs t2 h hw hS => ?_)
  obtain ⟨b3, h⟩ := h
  refine y_lald C hw (acr_17 SB) t2 b3 dX8_seenType_73 (fun v3 t3 => ?_)
  refine lv_lload_n C.1.1 C.1.2.1 dX8_seenType_74 rfl (lv_at hl 2 rfl) ?_
  refine y_lcmp C t3 xt1 dX8_seenType_75 (fun v4 t4 => ?_)
  refine y_if_ne C t4 dX8_seenType_76 (tgt := 89) (by decide) (fun c5 => ?_) (fun c5 => ?_)
  · have c5 := cmp_ne.mp c5
    have h := h.1 c5
    refine lv_iload C.1.1 C.1.2.1 dX8_seenType_89 (lv_at hl 4 rfl) ?_
    refine lv_istore (lv' := [(4, .int xv4), (6, .int sv0), (0, .ref (G.2.2 1042)), (1, .long xv1), (3, .int xv3), (5, .int xv5)]) C.1.1 C.1.2.1 dX8_seenType_91 hl (by decide) rfl (fun ls hl => ?_)
    obtain ⟨x_6, e6⟩ : ∃ z : Int, z = w32 (x5 + 1) := ⟨_, rfl⟩
    have h := h x_6 e6
    obtain ⟨v6, t6, g6⟩ : ∃ z : Int32, z.toInt = x_6 ∧ xv5 + Int32.ofInt 1 = z := ⟨_, (ti_inc xt5 ⟨by decide, by decide⟩).trans e6.symm, rfl⟩
    refine lv_iinc (v := v6) (lv' := [(5, .int v6), (4, .int xv4), (6, .int sv0), (0, .ref (G.2.2 1042)), (1, .long xv1), (3, .int xv3)]) C.1.1 C.1.2.1 dX8_seenType_93 hl (k := 5) rfl g6 (by decide) rfl (fun ls hl => ?_)
    refine lv_goto (tgt := 6) C.1.1 C.1.2.1 dX8_seenType_96 (by decide) ?_
    exact hP6 xt4 t6 hw hS (lv_sub hl [3, 4, 5, 1, 0] rfl) h
  · have c5 := cmp_eq.mp c5
    have h := h.2 c5
    refine lv_iload C.1.1 C.1.2.1 dX8_seenType_79 (lv_at hl 0 rfl) ?_
    refine y_if_eq C st0 dX8_seenType_81 (tgt := 89) (by decide) (fun c7 => ?_) (fun c7 => ?_)
    · have h := h.1 c7
      refine lv_iload C.1.1 C.1.2.1 dX8_seenType_89 (lv_at hl 4 rfl) ?_
      refine lv_istore (lv' := [(4, .int xv4), (6, .int sv0), (0, .ref (G.2.2 1042)), (1, .long xv1), (3, .int xv3), (5, .int xv5)]) C.1.1 C.1.2.1 dX8_seenType_91 hl (by decide) rfl (fun ls hl => ?_)
      obtain ⟨x_8, e8⟩ : ∃ z : Int, z = w32 (x5 + 1) := ⟨_, rfl⟩
      have h := h x_8 e8
      obtain ⟨v8, t8, g8⟩ : ∃ z : Int32, z.toInt = x_8 ∧ xv5 + Int32.ofInt 1 = z := ⟨_, (ti_inc xt5 ⟨by decide, by decide⟩).trans e8.symm, rfl⟩
      refine lv_iinc (v := v8) (lv' := [(5, .int v8), (4, .int xv4), (6, .int sv0), (0, .ref (G.2.2 1042)), (1, .long xv1), (3, .int xv3)]) C.1.1 C.1.2.1 dX8_seenType_93 hl (k := 5) rfl g8 (by decide) rfl (fun ls hl => ?_)
      refine lv_goto (tgt := 6) C.1.1 C.1.2.1 dX8_seenType_96 (by decide) ?_
      exact hP6 xt4 t8 hw hS (lv_sub hl [3, 4, 5, 1, 0] rfl) h
    · have h := h.2 c7
      refine lv_iload C.1.1 C.1.2.1 dX8_seenType_84 (lv_at hl 5 rfl) ?_
      refine lv_goto (tgt := 91) C.1.1 C.1.2.1 dX8_seenType_86 (by decide) ?_
      refine lv_istore (lv' := [(4, .int xv5), (6, .int sv0), (0, .ref (G.2.2 1042)), (1, .long xv1), (3, .int xv3), (5, .int xv5)]) C.1.1 C.1.2.1 dX8_seenType_91 hl (by decide) rfl (fun ls hl => ?_)
      obtain ⟨x_9, e9⟩ : ∃ z : Int, z = w32 (x5 + 1) := ⟨_, rfl⟩
      have h := h x_9 e9
      obtain ⟨v9, t9, g9⟩ : ∃ z : Int32, z.toInt = x_9 ∧ xv5 + Int32.ofInt 1 = z := ⟨_, (ti_inc xt5 ⟨by decide, by decide⟩).trans e9.symm, rfl⟩
      refine lv_iinc (v := v9) (lv' := [(5, .int v9), (4, .int xv5), (6, .int sv0), (0, .ref (G.2.2 1042)), (1, .long xv1), (3, .int xv3)]) C.1.1 C.1.2.1 dX8_seenType_93 hl (k := 5) rfl g9 (by decide) rfl (fun ls hl => ?_)
      refine lv_goto (tgt := 6) C.1.1 C.1.2.1 dX8_seenType_96 (by decide) ?_
      exact hP6 xt5 t9 hw hS (lv_sub hl [3, 4, 5, 1, 0] rfl) h
set_option maxHeartbeats 4000000 in
set_option maxRecDepth 10000 in
theorem uX8_seenType_56 {p : Program} {l : Launch} {e : Env} {s : State} {m : MethodId} {args : Array Value} {below : List Frame} {meth : Method} {c : Code} {G : GG} {SB : St} (C : Cx p s m args meth c G RX8 cX8_seenType 7 (some .int)) {S : St} {H : Heap} {locs : List Loc} {ls : Array Slot} {P6 : Int → Int → Prop} {k : Int → Prop} (hw : Wd G ((injR SB) S) H) (hS : va_S (AG G) s.heap H locs) {xv1 : Int64} {x1 : Int} (xt1 : xv1.toInt = x1) {xv3 : Int32} {x3 : Int} (xt3 : xv3.toInt = x3) {xv4 : Int32} {x4 : Int} (xt4 : xv4.toInt = x4) {xv5 : Int32} {x5 : Int} (xt5 : xv5.toInt = x5) (hl : lv_has ls 7 [(0, .ref (G.2.2 1042)), (1, .long xv1), (3, .int xv3), (4, .int xv4), (5, .int xv5)]) (hP6 : ∀ {H : Heap} {locs : List Loc} {ls : Array Slot} {yv4 : Int32} {y4 : Int} {yv5 : Int32} {y5 : Int}, yv4.toInt = y4 → yv5.toInt = y5 → Wd G ((injR SB) S) H → va_S (AG G) s.heap H locs → lv_has ls 7 [(0, .ref (G.2.2 1042)), (1, .long xv1), (3, .int xv3), (4, .int yv4), (5, .int yv5)] → P6 y4 y5 → W p l e (rmF 1 21) s m args below meth c H locs 0 0 (MQ below (QcI G (injR SB) (fun r u => k r ∧ u = S)) args s 0 0 (AG G)) (F0 m 6 ls [])) (h : wX8_seenType_56 S x1 x3 x4 x5 P6 k) : W p l e (rmF 1 21) s m args below meth c H locs 0 0 (MQ below (QcI G (injR SB) (fun r u => k r ∧ u = S)) args s 0 0 (AG G)) (F0 m 56 ls []) := by
  refine y_iconst C dX8_seenType_56 ⟨by decide, by decide⟩ (fun v1 t1 => ?_)
  refine lv_goto (tgt := 61) C.1.1 C.1.2.1 dX8_seenType_57 (by decide) ?_
  exact uX8_seenType_61 C hw hS xt1 xt3 xt4 xt5 t1 (lv_sub hl [0, 1, 2, 3, 4] rfl) hP6 h
set_option maxHeartbeats 4000000 in
set_option maxRecDepth 10000 in
theorem uX8_seenType_6_b {p : Program} {l : Launch} {e : Env} {s : State} {m : MethodId} {args : Array Value} {below : List Frame} {meth : Method} {c : Code} {G : GG} {SB : St} (C : Cx p s m args meth c G RX8 cX8_seenType 7 (some .int)) {S : St} {H : Heap} {locs : List Loc} {ls : Array Slot}  {P6 : Int → Int → Prop} {k : Int → Prop} (hw : Wd G ((injR SB) S) H) (hS : va_S (AG G) s.heap H locs) {xv1 : Int64} {x1 : Int} (xt1 : xv1.toInt = x1) {xv3 : Int32} {x3 : Int} (xt3 : xv3.toInt = x3) {xv4 : Int32} {x4 : Int} (xt4 : xv4.toInt = x4) {xv5 : Int32} {x5 : Int} (xt5 : xv5.toInt = x5) (hl : lv_has ls 7 [(0, .ref (G.2.2 1042)), (1, .long xv1), (3, .int xv3), (4, .int xv4), (5, .int xv5)])  (hP6 : ∀ {H : Heap} {locs : List Loc} {ls : Array Slot} {yv4 : Int32} {y4 : Int} {yv5 : Int32} {y5 : Int}, yv4.toInt = y4 → yv5.toInt = y5 → Wd G ((injR SB) S) H → va_S (AG G) s.heap H locs → lv_has ls 7 [(0, .ref (G.2.2 1042)), (1, .long xv1), (3, .int xv3), (4, .int yv4), (5, .int yv5)] → P6 y4 y5 → W p l e (rmF 1 21) s m args below meth c H locs 0 0 (MQ below (QcI G (injR SB) (fun r u => k r ∧ u = S)) args s 0 0 (AG G)) (F0 m 6 ls [])) (h : wX8_seenType_6_b S x1 x3 x4 x5 P6 k) : W p l e (rmF 1 21) s m args below meth c H locs 0 0 (MQ below (QcI G (injR SB) (fun r u => k r ∧ u = S)) args s 0 0 (AG G)) (F0 m 6 ls []) := by
  refine lv_iload C.1.1 C.1.2.1 dX8_seenType_6 (lv_at hl 4 rfl) ?_
  refine lv_iload_n C.1.1 C.1.2.1 dX8_seenType_8 rfl (lv_at hl 2 rfl) ?_
  refine y_icmp_gt C xt5 xt3 dX8_seenType_9 (tgt := 99) (by decide) (fun c1 => ?_) (fun c1 => ?_)
  · have h := h.1 c1
    refine lv_iload C.1.1 C.1.2.1 dX8_seenType_99 (lv_at hl 3 rfl) ?_
    exact y_iret C hw hS xt4 ⟨h, rfl⟩ dX8_seenType_101
  · have h := h.2 c1
    refine lv_iload C.1.1 C.1.2.1 dX8_seenType_12 (lv_at hl 4 rfl) ?_
    refine lv_iload_n C.1.1 C.1.2.1 dX8_seenType_14 rfl (lv_at hl 2 rfl) ?_
    refine y_icmp_eq C xt5 xt3 dX8_seenType_15 (tgt := 56) (by decide) (fun c2 => ?_) (fun c2 => ?_)
    · have h := h.1 c2
      exact uX8_seenType_56 C hw hS xt1 xt3 xt4 xt5 (lv_sub hl [0, 1, 2, 3, 4] rfl) hP6 h
    · have h := h.2 c2
      refine lv_aload_n C.1.1 C.1.2.1 dX8_seenType_18 rfl (lv_at hl 0 rfl) ?_
      refine y_getA C fl_X8_67 hw (ocr SB) rfl (o := 10) rfl dX8_seenType_19 ?_
      refine lv_aload_n C.1.1 C.1.2.1 dX8_seenType_22 rfl (lv_at hl 0 rfl) ?_
      refine lv_iload C.1.1 C.1.2.1 dX8_seenType_23 (lv_at hl 4 rfl) ?_
      refine y_cVIp C (As := [.int xv5]) (rest := [.ref (G.2.2 (1052))]) ml_X8_214 (kX8_t l G SB S xt5 h) (ocr SB) (T := TX8) (N := 60) rfl (by decide) ⟨(Nat.le_of_ble_eq_true rfl), (Nat.le_of_ble_eq_true rfl)⟩ hl.1 rfl rfl (Nat.le_of_ble_eq_true rfl) hw hS dX8_seenType_25 (fun v4 x_4 H locs t4 h hw hS => ?_)
      obtain ⟨b5, h⟩ := h
      refine y_iald C hw (acr_19 SB) t4 b5 dX8_seenType_28 (fun v5 t5 => ?_)
      refine lv_aload_n C.1.1 C.1.2.1 dX8_seenType_29 rfl (lv_at hl 0 rfl) ?_
      refine y_getA C fl_X8_67 hw (ocr SB) rfl (o := 10) rfl dX8_seenType_30 ?_
      refine lv_aload_n C.1.1 C.1.2.1 dX8_seenType_33 rfl (lv_at hl 0 rfl) ?_
      refine lv_iload_n C.1.1 C.1.2.1 dX8_seenType_34 rfl (lv_at hl 2 rfl) ?_
      refine y_cVIp C (As := [.int xv3]) (rest := [.ref (G.2.2 (1052)), .int v5]) ml_X8_214 (kX8_t l G SB S xt3 h) (ocr SB) (T := TX8) (N := 60) rfl (by decide) ⟨(Nat.le_of_ble_eq_true rfl), (Nat.le_of_ble_eq_true rfl)⟩ hl.1 rfl rfl (Nat.le_of_ble_eq_true rfl) hw hS dX8_seenType_35 (fun v7 x_7 H locs t7 h hw hS => ?_)
      obtain ⟨b8, h⟩ := h
      refine y_iald C hw (acr_19 SB) t7 b8 dX8_seenType_38 (fun v8 t8 => ?_)
      refine y_icmp_eq C t5 t8 dX8_seenType_39 (tgt := 56) (by decide) (fun c9 => ?_) (fun c9 => ?_)
      · have h := h.1 c9
        exact uX8_seenType_56 C hw hS xt1 xt3 xt4 xt5 (lv_sub hl [0, 1, 2, 3, 4] rfl) hP6 h
      · have h := h.2 c9
        refine lv_aload_n C.1.1 C.1.2.1 dX8_seenType_42 rfl (lv_at hl 0 rfl) ?_
        refine y_getA C fl_X8_67 hw (ocr SB) rfl (o := 10) rfl dX8_seenType_43 ?_
        refine lv_aload_n C.1.1 C.1.2.1 dX8_seenType_46 rfl (lv_at hl 0 rfl) ?_
        refine lv_iload C.1.1 C.1.2.1 dX8_seenType_47 (lv_at hl 4 rfl) ?_
        refine y_cVIp C (As := [.int xv5]) (rest := [.ref (G.2.2 (1052))]) ml_X8_214 (kX8_t l G SB S xt5 h) (ocr SB) (T := TX8) (N := 60) rfl (by decide) ⟨(Nat.le_of_ble_eq_true rfl), (Nat.le_of_ble_eq_true rfl)⟩ hl.1 rfl rfl (Nat.le_of_ble_eq_true rfl) hw hS dX8_seenType_49 (fun v11 x_11 H locs t11 h hw hS => ?_)
        obtain ⟨b12, h⟩ := h
        refine y_iald C hw (acr_19 SB) t11 b12 dX8_seenType_52 (fun v12 t12 => ?_)
        refine y_if_ne C t12 dX8_seenType_53 (tgt := 60) (by decide) (fun c13 => ?_) (fun c13 => ?_)
        · have h := h.1 c13
          refine y_iconst C dX8_seenType_60 ⟨by decide, by decide⟩ (fun v14 t14 => ?_)
          exact uX8_seenType_61 C hw hS xt1 xt3 xt4 xt5 t14 (lv_sub hl [0, 1, 2, 3, 4] rfl) hP6 h
        · have h := h.2 c13
          exact uX8_seenType_56 C hw hS xt1 xt3 xt4 xt5 (lv_sub hl [0, 1, 2, 3, 4] rfl) hP6 h
set_option maxHeartbeats 4000000 in
set_option maxRecDepth 10000 in
theorem uX8_seenType_6 {p : Program} {l : Launch} {e : Env} {s : State} {m : MethodId} {args : Array Value} {below : List Frame} {meth : Method} {c : Code} {G : GG} {SB : St} (C : Cx p s m args meth c G RX8 cX8_seenType 7 (some .int)) {S : St} {H : Heap} {locs : List Loc} {ls : Array Slot}  {k : Int → Prop} (hw : Wd G ((injR SB) S) H) (hS : va_S (AG G) s.heap H locs) {xv1 : Int64} {x1 : Int} (xt1 : xv1.toInt = x1) {xv3 : Int32} {x3 : Int} (xt3 : xv3.toInt = x3) {xv4 : Int32} {x4 : Int} (xt4 : xv4.toInt = x4) {xv5 : Int32} {x5 : Int} (xt5 : xv5.toInt = x5) (hl : lv_has ls 7 [(0, .ref (G.2.2 1042)), (1, .long xv1), (3, .int xv3), (4, .int xv4), (5, .int xv5)])  (h : wX8_seenType_6 S x1 x3 x4 x5 k) : W p l e (rmF 1 21) s m args below meth c H locs 0 0 (MQ below (QcI G (injR SB) (fun r u => k r ∧ u = S)) args s 0 0 (AG G)) (F0 m 6 ls []) := by
  have key : ∀ (n : Nat) {H : Heap} {locs : List Loc} {ls : Array Slot} {xv4 : Int32} {x4 : Int} {xv5 : Int32} {x5 : Int}, xv4.toInt = x4 → xv5.toInt = x5 → Wd G ((injR SB) S) H → va_S (AG G) s.heap H locs → lv_has ls 7 [(0, .ref (G.2.2 1042)), (1, .long xv1), (3, .int xv3), (4, .int xv4), (5, .int xv5)] → itP (fun (P : Int × Int → Prop) (a : Int × Int) => wX8_seenType_6_b S x1 x3 a.1 a.2 (fun b0 b1 => P (b0, b1)) k) n (x4, x5) → W p l e (rmF 1 21) s m args below meth c H locs 0 0 (MQ below (QcI G (injR SB) (fun r u => k r ∧ u = S)) args s 0 0 (AG G)) (F0 m 6 ls []) := by
    intro n
    induction n with
    | zero => intro H locs ls xv4 x4 xv5 x5 xt4 xt5 hw hS hl h; exact h.elim
    | succ n ih =>
      intro H locs ls xv4 x4 xv5 x5 xt4 xt5 hw hS hl h
      exact uX8_seenType_6_b C hw hS xt1 xt3 xt4 xt5 hl  (P6 := fun b0 b1 => itP _ n (b0, b1)) (fun q0 q1 hw hS hl h => ih q0 q1 hw hS hl h) h
  obtain ⟨n, hn⟩ := h
  exact key n xt4 xt5 hw hS hl hn
set_option maxHeartbeats 4000000 in
set_option maxRecDepth 10000 in
theorem uX8_seenType_0 {p : Program} {l : Launch} {e : Env} {s : State} {m : MethodId} {args : Array Value} {below : List Frame} {meth : Method} {c : Code} {G : GG} {SB : St} (C : Cx p s m args meth c G RX8 cX8_seenType 7 (some .int)) {S : St} {H : Heap} {locs : List Loc} {ls : Array Slot}  {k : Int → Prop} (hw : Wd G ((injR SB) S) H) (hS : va_S (AG G) s.heap H locs) {xv1 : Int64} {x1 : Int} (xt1 : xv1.toInt = x1) {xv3 : Int32} {x3 : Int} (xt3 : xv3.toInt = x3) (hl : lv_has ls 7 [(0, .ref (G.2.2 1042)), (1, .long xv1), (3, .int xv3)])  (h : wX8_seenType_0 S x1 x3 k) : W p l e (rmF 1 21) s m args below meth c H locs 0 0 (MQ below (QcI G (injR SB) (fun r u => k r ∧ u = S)) args s 0 0 (AG G)) (F0 m 0 ls []) := by
  refine y_iconst C dX8_seenType_0 ⟨by decide, by decide⟩ (fun v1 t1 => ?_)
  refine lv_istore (lv' := [(4, .int v1), (0, .ref (G.2.2 1042)), (1, .long xv1), (3, .int xv3)]) C.1.1 C.1.2.1 dX8_seenType_1 hl (by decide) rfl (fun ls hl => ?_)
  refine y_iconst C dX8_seenType_3 ⟨by decide, by decide⟩ (fun v2 t2 => ?_)
  refine lv_istore (lv' := [(5, .int v2), (4, .int v1), (0, .ref (G.2.2 1042)), (1, .long xv1), (3, .int xv3)]) C.1.1 C.1.2.1 dX8_seenType_4 hl (by decide) rfl (fun ls hl => ?_)
  exact uX8_seenType_6 C hw hS xt1 xt3 t1 t2 (lv_sub hl [2, 3, 4, 1, 0] rfl)  h
theorem kX8_seenType (l : Launch) (G : GG) (SB S : St) {xv1 : Int64} {x1 : Int} (xt1 : xv1.toInt = x1) {xv3 : Int32} {x3 : Int} (xt3 : xv3.toInt = x3) {k : Int → Prop} (h : wX8_seenType S x1 x3 k) : CnI l yX8_seenType cX8_seenType 7 (some .int) 1 21 G (injR SB) [.ref (G.2.2 1042), .long xv1, .int xv3] S (fun r u => k r ∧ u = S) :=
  cn_body (by decide +kernel) (Nat.le_of_ble_eq_true rfl) (fun p e s m args below meth c ls C hw hl => uX8_seenType_0 C hw va_S.rf xt1 xt3 (lv_sub hl [0, 1, 2] rfl) h)
set_option maxHeartbeats 4000000 in
set_option maxRecDepth 10000 in
theorem uX8_varNamed_6_b {p : Program} {l : Launch} {e : Env} {s : State} {m : MethodId} {args : Array Value} {below : List Frame} {meth : Method} {c : Code} {G : GG} {SB : St} (C : Cx p s m args meth c G RX8 cX8_varNamed 6 (some .int)) {S : St} {H : Heap} {locs : List Loc} {ls : Array Slot}  {P6 : Int → Int → Prop} {k : Int → Prop} (hw : Wd G ((injR SB) S) H) (hS : va_S (AG G) s.heap H locs) {xv1 : Int64} {x1 : Int} (xt1 : xv1.toInt = x1) {xv3 : Int32} {x3 : Int} (xt3 : xv3.toInt = x3) {xv4 : Int32} {x4 : Int} (xt4 : xv4.toInt = x4) {xv5 : Int32} {x5 : Int} (xt5 : xv5.toInt = x5) (hl : lv_has ls 6 [(0, .ref (G.2.2 1042)), (1, .long xv1), (3, .int xv3), (4, .int xv4), (5, .int xv5)])  (hP6 : ∀ {H : Heap} {locs : List Loc} {ls : Array Slot} {yv4 : Int32} {y4 : Int} {yv5 : Int32} {y5 : Int}, yv4.toInt = y4 → yv5.toInt = y5 → Wd G ((injR SB) S) H → va_S (AG G) s.heap H locs → lv_has ls 6 [(0, .ref (G.2.2 1042)), (1, .long xv1), (3, .int xv3), (4, .int yv4), (5, .int yv5)] → P6 y4 y5 → W p l e (rmF 1 21) s m args below meth c H locs 0 0 (MQ below (QcI G (injR SB) (fun r u => k r ∧ u = S)) args s 0 0 (AG G)) (F0 m 6 ls [])) (h : wX8_varNamed_6_b S x1 x3 x4 x5 P6 k) : W p l e (rmF 1 21) s m args below meth c H locs 0 0 (MQ below (QcI G (injR SB) (fun r u => k r ∧ u = S)) args s 0 0 (AG G)) (F0 m 6 ls []) := by
  refine lv_iload C.1.1 C.1.2.1 dX8_varNamed_6 (lv_at hl 4 rfl) ?_
  refine lv_aload_n C.1.1 C.1.2.1 dX8_varNamed_8 rfl (lv_at hl 0 rfl) ?_
  refine y_getA C fl_X8_76 hw (ocr SB) rfl (o := 13) rfl dX8_varNamed_9 ?_
  refine lv_aload_n C.1.1 C.1.2.1 dX8_varNamed_12 rfl (lv_at hl 0 rfl) ?_
  refine lv_iload_n C.1.1 C.1.2.1 dX8_varNamed_13 rfl (lv_at hl 2 rfl) ?_
  refine y_cVIp C (As := [.int xv3]) (rest := [.ref (G.2.2 (1055)), .int xv5]) ml_X8_214 (kX8_t l G SB S xt3 h) (ocr SB) (T := TX8) (N := 60) rfl (by decide) ⟨(Nat.le_of_ble_eq_true rfl), (Nat.le_of_ble_eq_true rfl)⟩ hl.1 rfl rfl (Nat.le_of_ble_eq_true rfl) hw hS dX8_varNamed_14 (fun v2 x_2 H locs t2 h hw hS => ?_)
  obtain ⟨b3, h⟩ := h
  refine y_iald C hw (acr_22 SB) t2 b3 dX8_varNamed_17 (fun v3 t3 => ?_)
  refine y_icmp_ge C xt5 t3 dX8_varNamed_18 (tgt := 56) (by decide) (fun c4 => ?_) (fun c4 => ?_)
  · have h := h.1 c4
    refine lv_iload C.1.1 C.1.2.1 dX8_varNamed_56 (lv_at hl 3 rfl) ?_
    exact y_iret C hw hS xt4 ⟨h, rfl⟩ dX8_varNamed_58
  · have h := h.2 c4
    refine lv_aload_n C.1.1 C.1.2.1 dX8_varNamed_21 rfl (lv_at hl 0 rfl) ?_
    refine y_getA C fl_X8_79 hw (ocr SB) rfl (o := 14) rfl dX8_varNamed_22 ?_
    refine y_iconst C dX8_varNamed_25 ⟨by decide, by decide⟩ (fun v6 t6 => ?_)
    refine lv_aload_n C.1.1 C.1.2.1 dX8_varNamed_26 rfl (lv_at hl 0 rfl) ?_
    refine lv_iload_n C.1.1 C.1.2.1 dX8_varNamed_27 rfl (lv_at hl 2 rfl) ?_
    refine y_cVIp C (As := [.int xv3]) (rest := [.int v6, .ref (G.2.2 (1056))]) ml_X8_214 (kX8_t l G SB S xt3 h) (ocr SB) (T := TX8) (N := 60) rfl (by decide) ⟨(Nat.le_of_ble_eq_true rfl), (Nat.le_of_ble_eq_true rfl)⟩ hl.1 rfl rfl (Nat.le_of_ble_eq_true rfl) hw hS dX8_varNamed_28 (fun v7 x_7 H locs t7 h hw hS => ?_)
    refine y_imul C t6 t7 dX8_varNamed_31 (fun v8 t8 => ?_)
    refine lv_iload C.1.1 C.1.2.1 dX8_varNamed_32 (lv_at hl 4 rfl) ?_
    refine y_iadd C t8 xt5 dX8_varNamed_34 (fun v9 t9 => ?_)
    obtain ⟨b10, h⟩ := h
    refine y_lald C hw (acr_23 SB) t9 b10 dX8_varNamed_35 (fun v10 t10 => ?_)
    refine lv_lload_n C.1.1 C.1.2.1 dX8_varNamed_36 rfl (lv_at hl 1 rfl) ?_
    refine y_lcmp C t10 xt1 dX8_varNamed_37 (fun v11 t11 => ?_)
    refine y_if_ne C t11 dX8_varNamed_38 (tgt := 46) (by decide) (fun c12 => ?_) (fun c12 => ?_)
    · have c12 := cmp_ne.mp c12
      have h := h.1 c12
      refine lv_iload C.1.1 C.1.2.1 dX8_varNamed_46 (lv_at hl 3 rfl) ?_
      refine lv_istore (lv' := [(4, .int xv4), (0, .ref (G.2.2 1042)), (1, .long xv1), (3, .int xv3), (5, .int xv5)]) C.1.1 C.1.2.1 dX8_varNamed_48 hl (by decide) rfl (fun ls hl => ?_)
      obtain ⟨x_13, e13⟩ : ∃ z : Int, z = w32 (x5 + 1) := ⟨_, rfl⟩
      have h := h x_13 e13
      obtain ⟨v13, t13, g13⟩ : ∃ z : Int32, z.toInt = x_13 ∧ xv5 + Int32.ofInt 1 = z := ⟨_, (ti_inc xt5 ⟨by decide, by decide⟩).trans e13.symm, rfl⟩
      refine lv_iinc (v := v13) (lv' := [(5, .int v13), (4, .int xv4), (0, .ref (G.2.2 1042)), (1, .long xv1), (3, .int xv3)]) C.1.1 C.1.2.1 dX8_varNamed_50 hl (k := 4) rfl g13 (by decide) rfl (fun ls hl => ?_)
      refine lv_goto (tgt := 6) C.1.1 C.1.2.1 dX8_varNamed_53 (by decide) ?_
      exact hP6 xt4 t13 hw hS (lv_sub hl [2, 3, 4, 1, 0] rfl) h
    · have c12 := cmp_eq.mp c12
      have h := h.2 c12
      refine lv_iload C.1.1 C.1.2.1 dX8_varNamed_41 (lv_at hl 4 rfl) ?_
      refine lv_goto (tgt := 48) C.1.1 C.1.2.1 dX8_varNamed_43 (by decide) ?_
      refine lv_istore (lv' := [(4, .int xv5), (0, .ref (G.2.2 1042)), (1, .long xv1), (3, .int xv3), (5, .int xv5)]) C.1.1 C.1.2.1 dX8_varNamed_48 hl (by decide) rfl (fun ls hl => ?_)
      obtain ⟨x_14, e14⟩ : ∃ z : Int, z = w32 (x5 + 1) := ⟨_, rfl⟩
      have h := h x_14 e14
      obtain ⟨v14, t14, g14⟩ : ∃ z : Int32, z.toInt = x_14 ∧ xv5 + Int32.ofInt 1 = z := ⟨_, (ti_inc xt5 ⟨by decide, by decide⟩).trans e14.symm, rfl⟩
      refine lv_iinc (v := v14) (lv' := [(5, .int v14), (4, .int xv5), (0, .ref (G.2.2 1042)), (1, .long xv1), (3, .int xv3)]) C.1.1 C.1.2.1 dX8_varNamed_50 hl (k := 4) rfl g14 (by decide) rfl (fun ls hl => ?_)
      refine lv_goto (tgt := 6) C.1.1 C.1.2.1 dX8_varNamed_53 (by decide) ?_
      exact hP6 xt5 t14 hw hS (lv_sub hl [2, 3, 4, 1, 0] rfl) h
set_option maxHeartbeats 4000000 in
set_option maxRecDepth 10000 in
theorem uX8_varNamed_6 {p : Program} {l : Launch} {e : Env} {s : State} {m : MethodId} {args : Array Value} {below : List Frame} {meth : Method} {c : Code} {G : GG} {SB : St} (C : Cx p s m args meth c G RX8 cX8_varNamed 6 (some .int)) {S : St} {H : Heap} {locs : List Loc} {ls : Array Slot}  {k : Int → Prop} (hw : Wd G ((injR SB) S) H) (hS : va_S (AG G) s.heap H locs) {xv1 : Int64} {x1 : Int} (xt1 : xv1.toInt = x1) {xv3 : Int32} {x3 : Int} (xt3 : xv3.toInt = x3) {xv4 : Int32} {x4 : Int} (xt4 : xv4.toInt = x4) {xv5 : Int32} {x5 : Int} (xt5 : xv5.toInt = x5) (hl : lv_has ls 6 [(0, .ref (G.2.2 1042)), (1, .long xv1), (3, .int xv3), (4, .int xv4), (5, .int xv5)])  (h : wX8_varNamed_6 S x1 x3 x4 x5 k) : W p l e (rmF 1 21) s m args below meth c H locs 0 0 (MQ below (QcI G (injR SB) (fun r u => k r ∧ u = S)) args s 0 0 (AG G)) (F0 m 6 ls []) := by
  have key : ∀ (n : Nat) {H : Heap} {locs : List Loc} {ls : Array Slot} {xv4 : Int32} {x4 : Int} {xv5 : Int32} {x5 : Int}, xv4.toInt = x4 → xv5.toInt = x5 → Wd G ((injR SB) S) H → va_S (AG G) s.heap H locs → lv_has ls 6 [(0, .ref (G.2.2 1042)), (1, .long xv1), (3, .int xv3), (4, .int xv4), (5, .int xv5)] → itP (fun (P : Int × Int → Prop) (a : Int × Int) => wX8_varNamed_6_b S x1 x3 a.1 a.2 (fun b0 b1 => P (b0, b1)) k) n (x4, x5) → W p l e (rmF 1 21) s m args below meth c H locs 0 0 (MQ below (QcI G (injR SB) (fun r u => k r ∧ u = S)) args s 0 0 (AG G)) (F0 m 6 ls []) := by
    intro n
    induction n with
    | zero => intro H locs ls xv4 x4 xv5 x5 xt4 xt5 hw hS hl h; exact h.elim
    | succ n ih =>
      intro H locs ls xv4 x4 xv5 x5 xt4 xt5 hw hS hl h
      exact uX8_varNamed_6_b C hw hS xt1 xt3 xt4 xt5 hl  (P6 := fun b0 b1 => itP _ n (b0, b1)) (fun q0 q1 hw hS hl h => ih q0 q1 hw hS hl h) h
  obtain ⟨n, hn⟩ := h
  exact key n xt4 xt5 hw hS hl hn
set_option maxHeartbeats 4000000 in
set_option maxRecDepth 10000 in
theorem uX8_varNamed_0 {p : Program} {l : Launch} {e : Env} {s : State} {m : MethodId} {args : Array Value} {below : List Frame} {meth : Method} {c : Code} {G : GG} {SB : St} (C : Cx p s m args meth c G RX8 cX8_varNamed 6 (some .int)) {S : St} {H : Heap} {locs : List Loc} {ls : Array Slot}  {k : Int → Prop} (hw : Wd G ((injR SB) S) H) (hS : va_S (AG G) s.heap H locs) {xv1 : Int64} {x1 : Int} (xt1 : xv1.toInt = x1) {xv3 : Int32} {x3 : Int} (xt3 : xv3.toInt = x3) (hl : lv_has ls 6 [(0, .ref (G.2.2 1042)), (1, .long xv1), (3, .int xv3)])  (h : wX8_varNamed_0 S x1 x3 k) : W p l e (rmF 1 21) s m args below meth c H locs 0 0 (MQ below (QcI G (injR SB) (fun r u => k r ∧ u = S)) args s 0 0 (AG G)) (F0 m 0 ls []) := by
  refine y_iconst C dX8_varNamed_0 ⟨by decide, by decide⟩ (fun v1 t1 => ?_)
  refine lv_istore (lv' := [(4, .int v1), (0, .ref (G.2.2 1042)), (1, .long xv1), (3, .int xv3)]) C.1.1 C.1.2.1 dX8_varNamed_1 hl (by decide) rfl (fun ls hl => ?_)
  refine y_iconst C dX8_varNamed_3 ⟨by decide, by decide⟩ (fun v2 t2 => ?_)
  refine lv_istore (lv' := [(5, .int v2), (4, .int v1), (0, .ref (G.2.2 1042)), (1, .long xv1), (3, .int xv3)]) C.1.1 C.1.2.1 dX8_varNamed_4 hl (by decide) rfl (fun ls hl => ?_)
  exact uX8_varNamed_6 C hw hS xt1 xt3 t1 t2 (lv_sub hl [2, 3, 4, 1, 0] rfl)  h
theorem kX8_varNamed (l : Launch) (G : GG) (SB S : St) {xv1 : Int64} {x1 : Int} (xt1 : xv1.toInt = x1) {xv3 : Int32} {x3 : Int} (xt3 : xv3.toInt = x3) {k : Int → Prop} (h : wX8_varNamed S x1 x3 k) : CnI l yX8_varNamed cX8_varNamed 6 (some .int) 1 21 G (injR SB) [.ref (G.2.2 1042), .long xv1, .int xv3] S (fun r u => k r ∧ u = S) :=
  cn_body (by decide +kernel) (Nat.le_of_ble_eq_true rfl) (fun p e s m args below meth c ls C hw hl => uX8_varNamed_0 C hw va_S.rf xt1 xt3 (lv_sub hl [0, 1, 2] rfl) h)
set_option maxHeartbeats 4000000 in
set_option maxRecDepth 10000 in
theorem uX8_takeNamed_44 {p : Program} {l : Launch} {e : Env} {s : State} {m : MethodId} {args : Array Value} {below : List Frame} {meth : Method} {c : Code} {G : GG} {SB : St} (C : Cx p s m args meth c G RX8 cX8_takeNamed 4 (some .int)) {S : St} {H : Heap} {locs : List Loc} {ls : Array Slot}  {k : Int → St → Prop} (hw : Wd G ((injR SB) S) H) (hS : va_S (AG G) s.heap H locs) {sv0 : Int32} {s0 : Int} (st0 : sv0.toInt = s0) (hl : lv_has ls 4 [(0, .ref (G.2.2 1042))])  (h : wX8_takeNamed_44 S s0 k) : W p l e (rmF 2 47) s m args below meth c H locs 0 0 (MQ below (QcI G (injR SB) k) args s 0 0 (AG G)) (F0 m 44 ls [.int sv0]) := by
  refine lv_istore_n (lv' := [(3, .int sv0), (0, .ref (G.2.2 1042))]) C.1.1 C.1.2.1 dX8_takeNamed_44 rfl hl (by decide) rfl (fun ls hl => ?_)
  refine lv_iload_n C.1.1 C.1.2.1 dX8_takeNamed_45 rfl (lv_at hl 0 rfl) ?_
  refine y_if_ge C st0 dX8_takeNamed_46 (tgt := 61) (by decide) (fun c1 => ?_) (fun c1 => ?_)
  · have h := h.1 c1
    refine lv_aload_n C.1.1 C.1.2.1 dX8_takeNamed_61 rfl (lv_at hl 1 rfl) ?_
    refine y_cVV C (As := []) (rest := []) ml_X8_202 (kX8_next l G SB S  h) (ocr SB) (T := TX8) (N := 60) rfl (by decide) ⟨(Nat.le_of_ble_eq_true rfl), (Nat.le_of_ble_eq_true rfl)⟩ hl.1 rfl rfl (Nat.le_of_ble_eq_true rfl) hw hS dX8_takeNamed_62 (fun S_2 H locs h hw hS => ?_)
    refine lv_iload_n C.1.1 C.1.2.1 dX8_takeNamed_65 rfl (lv_at hl 0 rfl) ?_
    exact y_iret C hw hS st0 h dX8_takeNamed_66
  · have h := h.2 c1
    refine lv_aload_n C.1.1 C.1.2.1 dX8_takeNamed_49 rfl (lv_at hl 1 rfl) ?_
    refine y_iconst C dX8_takeNamed_50 ⟨by decide, by decide⟩ (fun v3 t3 => ?_)
    refine lv_aload_n C.1.1 C.1.2.1 dX8_takeNamed_51 rfl (lv_at hl 1 rfl) ?_
    refine y_getI C fl_X8_172 hw (ocr SB) rfl dX8_takeNamed_52 (fun v4 t4 => ?_)
    refine y_cVV C (As := [.int v3, .int v4]) (rest := []) ml_X8_195 (kX8_fails l G SB S t3 t4 h) (ocr SB) (T := TX8) (N := 60) rfl (by decide) ⟨(Nat.le_of_ble_eq_true rfl), (Nat.le_of_ble_eq_true rfl)⟩ hl.1 rfl rfl (Nat.le_of_ble_eq_true rfl) hw hS dX8_takeNamed_55 (fun S_5 H locs h hw hS => ?_)
    refine lv_goto (tgt := 65) C.1.1 C.1.2.1 dX8_takeNamed_58 (by decide) ?_
    refine lv_iload_n C.1.1 C.1.2.1 dX8_takeNamed_65 rfl (lv_at hl 0 rfl) ?_
    exact y_iret C hw hS st0 h dX8_takeNamed_66
set_option maxHeartbeats 4000000 in
set_option maxRecDepth 10000 in
theorem uX8_takeNamed_0 {p : Program} {l : Launch} {e : Env} {s : State} {m : MethodId} {args : Array Value} {below : List Frame} {meth : Method} {c : Code} {G : GG} {SB : St} (C : Cx p s m args meth c G RX8 cX8_takeNamed 4 (some .int)) {S : St} {H : Heap} {locs : List Loc} {ls : Array Slot}  {k : Int → St → Prop} (hw : Wd G ((injR SB) S) H) (hS : va_S (AG G) s.heap H locs) {xv1 : Int32} {x1 : Int} (xt1 : xv1.toInt = x1) (hl : lv_has ls 4 [(0, .ref (G.2.2 1042)), (1, .int xv1)])  (h : wX8_takeNamed_0 S x1 k) : W p l e (rmF 2 47) s m args below meth c H locs 0 0 (MQ below (QcI G (injR SB) k) args s 0 0 (AG G)) (F0 m 0 ls []) := by
  refine lv_aload_n C.1.1 C.1.2.1 dX8_takeNamed_0 rfl (lv_at hl 0 rfl) ?_
  refine y_iconst C dX8_takeNamed_1 ⟨by decide, by decide⟩ (fun v1 t1 => ?_)
  refine y_cVIp C (As := [.int v1]) (rest := []) ml_X8_199 (kX8_is l G SB S t1 h) (ocr SB) (T := TX8) (N := 60) rfl (by decide) ⟨(Nat.le_of_ble_eq_true rfl), (Nat.le_of_ble_eq_true rfl)⟩ hl.1 rfl rfl (Nat.le_of_ble_eq_true rfl) hw hS dX8_takeNamed_2 (fun v2 x_2 H locs t2 h hw hS => ?_)
  refine y_if_ne C t2 dX8_takeNamed_5 (tgt := 14) (by decide) (fun c3 => ?_) (fun c3 => ?_)
  · have h := h.1 c3
    refine lv_aload_n C.1.1 C.1.2.1 dX8_takeNamed_14 rfl (lv_at hl 0 rfl) ?_
    refine lv_aload_n C.1.1 C.1.2.1 dX8_takeNamed_15 rfl (lv_at hl 0 rfl) ?_
    refine y_getJ C fl_X8_182 hw (ocr SB) rfl dX8_takeNamed_16 (fun v4 t4 => ?_)
    refine lv_iload_n C.1.1 C.1.2.1 dX8_takeNamed_19 rfl (lv_at hl 1 rfl) ?_
    refine y_cVIp C (As := [.long v4, .int xv1]) (rest := []) ml_X8_239 (kX8_varNamed l G SB S t4 xt1 h) (ocr SB) (T := TX8) (N := 60) rfl (by decide) ⟨(Nat.le_of_ble_eq_true rfl), (Nat.le_of_ble_eq_true rfl)⟩ hl.1 rfl rfl (Nat.le_of_ble_eq_true rfl) hw hS dX8_takeNamed_20 (fun v5 x_5 H locs t5 h hw hS => ?_)
    refine lv_istore_n (lv' := [(2, .int v5), (0, .ref (G.2.2 1042)), (1, .int xv1)]) C.1.1 C.1.2.1 dX8_takeNamed_23 rfl hl (by decide) rfl (fun ls hl => ?_)
    refine lv_iload_n C.1.1 C.1.2.1 dX8_takeNamed_24 rfl (lv_at hl 0 rfl) ?_
    refine y_if_lt C t5 dX8_takeNamed_25 (tgt := 35) (by decide) (fun c6 => ?_) (fun c6 => ?_)
    · have h := h.1 c6
      refine lv_aload_n C.1.1 C.1.2.1 dX8_takeNamed_35 rfl (lv_at hl 1 rfl) ?_
      refine lv_aload_n C.1.1 C.1.2.1 dX8_takeNamed_36 rfl (lv_at hl 1 rfl) ?_
      refine y_getJ C fl_X8_182 hw (ocr SB) rfl dX8_takeNamed_37 (fun v7 t7 => ?_)
      refine lv_iload_n C.1.1 C.1.2.1 dX8_takeNamed_40 rfl (lv_at hl 2 rfl) ?_
      refine y_cVIp C (As := [.long v7, .int xv1]) (rest := []) ml_X8_243 (kX8_seenType l G SB S t7 xt1 h) (ocr SB) (T := TX8) (N := 60) rfl (by decide) ⟨(Nat.le_of_ble_eq_true rfl), (Nat.le_of_ble_eq_true rfl)⟩ hl.1 rfl rfl (Nat.le_of_ble_eq_true rfl) hw hS dX8_takeNamed_41 (fun v8 x_8 H locs t8 h hw hS => ?_)
      exact uX8_takeNamed_44 C hw hS t8 (lv_sub hl [1] rfl)  h
    · have h := h.2 c6
      refine y_bipush C dX8_takeNamed_28 ⟨by decide, by decide⟩ (fun v9 t9 => ?_)
      refine lv_iload_n C.1.1 C.1.2.1 dX8_takeNamed_30 rfl (lv_at hl 0 rfl) ?_
      refine y_iadd C t9 t5 dX8_takeNamed_31 (fun v10 t10 => ?_)
      refine lv_goto (tgt := 44) C.1.1 C.1.2.1 dX8_takeNamed_32 (by decide) ?_
      exact uX8_takeNamed_44 C hw hS t10 (lv_sub hl [1] rfl)  h
  · have h := h.2 c3
    refine lv_aload_n C.1.1 C.1.2.1 dX8_takeNamed_8 rfl (lv_at hl 0 rfl) ?_
    refine y_cVV C (As := []) (rest := []) ml_X8_205 (kX8_odd l G SB S  h) (ocr SB) (T := TX8) (N := 60) rfl (by decide) ⟨(Nat.le_of_ble_eq_true rfl), (Nat.le_of_ble_eq_true rfl)⟩ hl.1 rfl rfl (Nat.le_of_ble_eq_true rfl) hw hS dX8_takeNamed_9 (fun S_11 H locs h hw hS => ?_)
    refine y_iconst C dX8_takeNamed_12 ⟨by decide, by decide⟩ (fun v12 t12 => ?_)
    exact y_iret C hw hS t12 h dX8_takeNamed_13
theorem kX8_takeNamed (l : Launch) (G : GG) (SB S : St) {xv1 : Int32} {x1 : Int} (xt1 : xv1.toInt = x1) {k : Int → St → Prop} (h : wX8_takeNamed S x1 k) : CnI l yX8_takeNamed cX8_takeNamed 4 (some .int) 2 47 G (injR SB) [.ref (G.2.2 1042), .int xv1] S k :=
  cn_body (by decide +kernel) (Nat.le_of_ble_eq_true rfl) (fun p e s m args below meth c ls C hw hl => uX8_takeNamed_0 C hw va_S.rf xt1 (lv_sub hl [0, 1] rfl) h)
set_option maxHeartbeats 4000000 in
set_option maxRecDepth 10000 in
theorem uX8_readPackage_115 {p : Program} {l : Launch} {e : Env} {s : State} {m : MethodId} {args : Array Value} {below : List Frame} {meth : Method} {c : Code} {G : GG} {SB : St} (C : Cx p s m args meth c G RX8 cX8_readPackage 3 none) {S : St} {H : Heap} {locs : List Loc} {ls : Array Slot}  {k : St → Prop} (hw : Wd G ((injR SB) S) H) (hS : va_S (AG G) s.heap H locs) {xv1 : Int32} {x1 : Int} (xt1 : xv1.toInt = x1) (hl : lv_has ls 3 [(0, .ref (G.2.2 1042)), (1, .int xv1)])  (h : wX8_readPackage_115 S x1 k) : W p l e (rmF 3 65) s m args below meth c H locs 0 0 (MQ below (QcV G (injR SB) k) args s 0 0 (AG G)) (F0 m 115 ls []) := by
  refine lv_aload_n C.1.1 C.1.2.1 dX8_readPackage_115 rfl (lv_at hl 0 rfl) ?_
  refine lv_iload_n C.1.1 C.1.2.1 dX8_readPackage_116 rfl (lv_at hl 1 rfl) ?_
  obtain ⟨S_1, e1⟩ : ∃ z : St, z = up S 0 46 x1 := ⟨_, rfl⟩
  have h := h S_1 e1
  refine y_putI C fl_X8_246 fp_8_46 hw hS (ocr SB) rfl xt1 dX8_readPackage_117 (fun H locs hw hS => ?_)
  have hw : Wd G ((injR SB) S_1) H := by rw [e1]; exact hw
  refine lv_aload_n C.1.1 C.1.2.1 dX8_readPackage_120 rfl (lv_at hl 0 rfl) ?_
  refine y_cVV C (As := []) (rest := []) ml_X8_202 (kX8_next l G SB S_1  h) (ocr SB) (T := TX8) (N := 60) rfl (by decide) ⟨(Nat.le_of_ble_eq_true rfl), (Nat.le_of_ble_eq_true rfl)⟩ hl.1 rfl rfl (Nat.le_of_ble_eq_true rfl) hw hS dX8_readPackage_121 (fun S_2 H locs h hw hS => ?_)
  refine lv_aload_n C.1.1 C.1.2.1 dX8_readPackage_124 rfl (lv_at hl 0 rfl) ?_
  refine y_bipush C dX8_readPackage_125 ⟨by decide, by decide⟩ (fun v3 t3 => ?_)
  refine y_cVV C (As := [.int v3]) (rest := []) ml_X8_249 (kX8_take l G SB S_2 t3 h) (ocr SB) (T := TX8) (N := 60) rfl (by decide) ⟨(Nat.le_of_ble_eq_true rfl), (Nat.le_of_ble_eq_true rfl)⟩ hl.1 rfl rfl (Nat.le_of_ble_eq_true rfl) hw hS dX8_readPackage_127 (fun S_4 H locs h hw hS => ?_)
  exact y_vret C hw hS h dX8_readPackage_130
set_option maxHeartbeats 4000000 in
set_option maxRecDepth 10000 in
theorem uX8_readPackage_21_b {p : Program} {l : Launch} {e : Env} {s : State} {m : MethodId} {args : Array Value} {below : List Frame} {meth : Method} {c : Code} {G : GG} {SB : St} (C : Cx p s m args meth c G RX8 cX8_readPackage 3 none) {S : St} {H : Heap} {locs : List Loc} {ls : Array Slot}  {P21 : Int → Int → Prop} {k : St → Prop} (hw : Wd G ((injR SB) S) H) (hS : va_S (AG G) s.heap H locs) {xv1 : Int32} {x1 : Int} (xt1 : xv1.toInt = x1) {xv2 : Int32} {x2 : Int} (xt2 : xv2.toInt = x2) (hl : lv_has ls 3 [(0, .ref (G.2.2 1042)), (1, .int xv1), (2, .int xv2)])  (hP21 : ∀ {H : Heap} {locs : List Loc} {ls : Array Slot} {yv1 : Int32} {y1 : Int} {yv2 : Int32} {y2 : Int}, yv1.toInt = y1 → yv2.toInt = y2 → Wd G ((injR SB) S) H → va_S (AG G) s.heap H locs → lv_has ls 3 [(0, .ref (G.2.2 1042)), (1, .int yv1), (2, .int yv2)] → P21 y1 y2 → W p l e (rmF 3 65) s m args below meth c H locs 0 0 (MQ below (QcV G (injR SB) k) args s 0 0 (AG G)) (F0 m 21 ls [])) (h : wX8_readPackage_21_b S x1 x2 P21 k) : W p l e (rmF 3 65) s m args below meth c H locs 0 0 (MQ below (QcV G (injR SB) k) args s 0 0 (AG G)) (F0 m 21 ls []) := by
  refine lv_iload_n C.1.1 C.1.2.1 dX8_readPackage_21 rfl (lv_at hl 2 rfl) ?_
  refine lv_aload_n C.1.1 C.1.2.1 dX8_readPackage_22 rfl (lv_at hl 0 rfl) ?_
  refine y_getA C fl_X8_55 hw (ocr SB) rfl (o := 6) rfl dX8_readPackage_23 ?_
  refine lv_aload_n C.1.1 C.1.2.1 dX8_readPackage_26 rfl (lv_at hl 0 rfl) ?_
  refine y_getI C fl_X8_208 hw (ocr SB) rfl dX8_readPackage_27 (fun v2 t2 => ?_)
  obtain ⟨b3, h⟩ := h
  refine y_iald C hw (acr_15 SB) t2 b3 dX8_readPackage_30 (fun v3 t3 => ?_)
  refine y_icmp_gt C xt2 t3 dX8_readPackage_31 (tgt := 69) (by decide) (fun c4 => ?_) (fun c4 => ?_)
  · have h := h.1 c4
    refine lv_iload_n C.1.1 C.1.2.1 dX8_readPackage_69 rfl (lv_at hl 1 rfl) ?_
    refine y_if_ne C xt1 dX8_readPackage_70 (tgt := 115) (by decide) (fun c5 => ?_) (fun c5 => ?_)
    · have h := h.1 c5
      exact uX8_readPackage_115 C hw hS xt1 (lv_sub hl [0, 1] rfl)  h
    · have h := h.2 c5
      refine lv_aload_n C.1.1 C.1.2.1 dX8_readPackage_73 rfl (lv_at hl 0 rfl) ?_
      refine y_getA C fl_X8_55 hw (ocr SB) rfl (o := 6) rfl dX8_readPackage_74 ?_
      refine lv_aload_n C.1.1 C.1.2.1 dX8_readPackage_77 rfl (lv_at hl 0 rfl) ?_
      refine y_getI C fl_X8_208 hw (ocr SB) rfl dX8_readPackage_78 (fun v7 t7 => ?_)
      refine lv_dup2_11 C.1.1 C.1.2.1 dX8_readPackage_81 rfl rfl ?_
      obtain ⟨b8, h⟩ := h
      refine y_iald C hw (acr_15 SB) t7 b8 dX8_readPackage_82 (fun v8 t8 => ?_)
      refine y_iconst C dX8_readPackage_83 ⟨by decide, by decide⟩ (fun v9 t9 => ?_)
      refine y_iadd C t8 t9 dX8_readPackage_84 (fun v10 t10 => ?_)
      obtain ⟨b11, h⟩ := h
      obtain ⟨S_11, e11⟩ : ∃ z : St, z = up S 6 (S 0 10) (w32 (S 6 (S 0 10) + 1)) := ⟨_, rfl⟩
      have h := h S_11 e11
      refine y_iast C hw hS (acr_15 SB) t7 t10 b11 dX8_readPackage_85 (fun H locs hw hS => ?_)
      have hw : Wd G ((injR SB) S_11) H := by rw [e11]; exact hw
      refine lv_aload_n C.1.1 C.1.2.1 dX8_readPackage_86 rfl (lv_at hl 0 rfl) ?_
      refine y_getA C fl_X8_55 hw (ocr SB) rfl (o := 6) rfl dX8_readPackage_87 ?_
      refine lv_aload_n C.1.1 C.1.2.1 dX8_readPackage_90 rfl (lv_at hl 0 rfl) ?_
      refine y_getI C fl_X8_208 hw (ocr SB) rfl dX8_readPackage_91 (fun v13 t13 => ?_)
      obtain ⟨b14, h⟩ := h
      refine y_iald C hw (acr_15 SB) t13 b14 dX8_readPackage_94 (fun v14 t14 => ?_)
      obtain ⟨x_15, e15⟩ : ∃ z : Int, z = S_11 6 (S_11 0 10) := ⟨_, rfl⟩
      have h := h x_15 e15
      have t15 := t14.trans e15.symm
      refine lv_istore_n (lv' := [(1, .int v14), (0, .ref (G.2.2 1042)), (2, .int xv2)]) C.1.1 C.1.2.1 dX8_readPackage_95 rfl hl (by decide) rfl (fun ls hl => ?_)
      refine lv_aload_n C.1.1 C.1.2.1 dX8_readPackage_96 rfl (lv_at hl 1 rfl) ?_
      refine y_getA C fl_X8_58 hw (ocr SB) rfl (o := 7) rfl dX8_readPackage_97 ?_
      refine y_sipush C dX8_readPackage_100 ⟨by decide, by decide⟩ (fun v17 t17 => ?_)
      refine lv_aload_n C.1.1 C.1.2.1 dX8_readPackage_103 rfl (lv_at hl 1 rfl) ?_
      refine y_getI C fl_X8_208 hw (ocr SB) rfl dX8_readPackage_104 (fun v18 t18 => ?_)
      refine y_imul C t17 t18 dX8_readPackage_107 (fun v19 t19 => ?_)
      refine lv_iload_n C.1.1 C.1.2.1 dX8_readPackage_108 rfl (lv_at hl 0 rfl) ?_
      refine y_iadd C t19 t15 dX8_readPackage_109 (fun v20 t20 => ?_)
      refine lv_aload_n C.1.1 C.1.2.1 dX8_readPackage_110 rfl (lv_at hl 1 rfl) ?_
      refine y_getJ C fl_X8_182 hw (ocr SB) rfl dX8_readPackage_111 (fun v21 t21 => ?_)
      obtain ⟨b22, h⟩ := h
      obtain ⟨S_22, e22⟩ : ∃ z : St, z = up S_11 7 (w32 (w32 (700 * (S_11 0 10)) + x_15)) (S_11 0 7) := ⟨_, rfl⟩
      have h := h S_22 e22
      refine y_last C hw hS (acr_16 SB) t20 t21 b22 dX8_readPackage_114 (fun H locs hw hS => ?_)
      have hw : Wd G ((injR SB) S_22) H := by rw [e22]; exact hw
      exact uX8_readPackage_115 C hw hS t15 (lv_sub hl [1, 0] rfl)  h
  · have h := h.2 c4
    refine lv_aload_n C.1.1 C.1.2.1 dX8_readPackage_34 rfl (lv_at hl 0 rfl) ?_
    refine y_getA C fl_X8_58 hw (ocr SB) rfl (o := 7) rfl dX8_readPackage_35 ?_
    refine y_sipush C dX8_readPackage_38 ⟨by decide, by decide⟩ (fun v24 t24 => ?_)
    refine lv_aload_n C.1.1 C.1.2.1 dX8_readPackage_41 rfl (lv_at hl 0 rfl) ?_
    refine y_getI C fl_X8_208 hw (ocr SB) rfl dX8_readPackage_42 (fun v25 t25 => ?_)
    refine y_imul C t24 t25 dX8_readPackage_45 (fun v26 t26 => ?_)
    refine lv_iload_n C.1.1 C.1.2.1 dX8_readPackage_46 rfl (lv_at hl 2 rfl) ?_
    refine y_iadd C t26 xt2 dX8_readPackage_47 (fun v27 t27 => ?_)
    obtain ⟨b28, h⟩ := h
    refine y_lald C hw (acr_16 SB) t27 b28 dX8_readPackage_48 (fun v28 t28 => ?_)
    refine lv_aload_n C.1.1 C.1.2.1 dX8_readPackage_49 rfl (lv_at hl 0 rfl) ?_
    refine y_getJ C fl_X8_182 hw (ocr SB) rfl dX8_readPackage_50 (fun v29 t29 => ?_)
    refine y_lcmp C t28 t29 dX8_readPackage_53 (fun v30 t30 => ?_)
    refine y_if_ne C t30 dX8_readPackage_54 (tgt := 61) (by decide) (fun c31 => ?_) (fun c31 => ?_)
    · have c31 := cmp_ne.mp c31
      have h := h.1 c31
      refine lv_iload_n C.1.1 C.1.2.1 dX8_readPackage_61 rfl (lv_at hl 1 rfl) ?_
      refine lv_istore_n (lv' := [(1, .int xv1), (0, .ref (G.2.2 1042)), (2, .int xv2)]) C.1.1 C.1.2.1 dX8_readPackage_62 rfl hl (by decide) rfl (fun ls hl => ?_)
      obtain ⟨x_32, e32⟩ : ∃ z : Int, z = w32 (x2 + 1) := ⟨_, rfl⟩
      have h := h x_32 e32
      obtain ⟨v32, t32, g32⟩ : ∃ z : Int32, z.toInt = x_32 ∧ xv2 + Int32.ofInt 1 = z := ⟨_, (ti_inc xt2 ⟨by decide, by decide⟩).trans e32.symm, rfl⟩
      refine lv_iinc (v := v32) (lv' := [(2, .int v32), (1, .int xv1), (0, .ref (G.2.2 1042))]) C.1.1 C.1.2.1 dX8_readPackage_63 hl (k := 2) rfl g32 (by decide) rfl (fun ls hl => ?_)
      refine lv_goto (tgt := 21) C.1.1 C.1.2.1 dX8_readPackage_66 (by decide) ?_
      exact hP21 xt1 t32 hw hS (lv_sub hl [2, 1, 0] rfl) h
    · have c31 := cmp_eq.mp c31
      have h := h.2 c31
      refine lv_iload_n C.1.1 C.1.2.1 dX8_readPackage_57 rfl (lv_at hl 2 rfl) ?_
      refine lv_goto (tgt := 62) C.1.1 C.1.2.1 dX8_readPackage_58 (by decide) ?_
      refine lv_istore_n (lv' := [(1, .int xv2), (0, .ref (G.2.2 1042)), (2, .int xv2)]) C.1.1 C.1.2.1 dX8_readPackage_62 rfl hl (by decide) rfl (fun ls hl => ?_)
      obtain ⟨x_33, e33⟩ : ∃ z : Int, z = w32 (x2 + 1) := ⟨_, rfl⟩
      have h := h x_33 e33
      obtain ⟨v33, t33, g33⟩ : ∃ z : Int32, z.toInt = x_33 ∧ xv2 + Int32.ofInt 1 = z := ⟨_, (ti_inc xt2 ⟨by decide, by decide⟩).trans e33.symm, rfl⟩
      refine lv_iinc (v := v33) (lv' := [(2, .int v33), (1, .int xv2), (0, .ref (G.2.2 1042))]) C.1.1 C.1.2.1 dX8_readPackage_63 hl (k := 2) rfl g33 (by decide) rfl (fun ls hl => ?_)
      refine lv_goto (tgt := 21) C.1.1 C.1.2.1 dX8_readPackage_66 (by decide) ?_
      exact hP21 xt2 t33 hw hS (lv_sub hl [2, 1, 0] rfl) h
set_option maxHeartbeats 4000000 in
set_option maxRecDepth 10000 in
theorem uX8_readPackage_21 {p : Program} {l : Launch} {e : Env} {s : State} {m : MethodId} {args : Array Value} {below : List Frame} {meth : Method} {c : Code} {G : GG} {SB : St} (C : Cx p s m args meth c G RX8 cX8_readPackage 3 none) {S : St} {H : Heap} {locs : List Loc} {ls : Array Slot}  {k : St → Prop} (hw : Wd G ((injR SB) S) H) (hS : va_S (AG G) s.heap H locs) {xv1 : Int32} {x1 : Int} (xt1 : xv1.toInt = x1) {xv2 : Int32} {x2 : Int} (xt2 : xv2.toInt = x2) (hl : lv_has ls 3 [(0, .ref (G.2.2 1042)), (1, .int xv1), (2, .int xv2)])  (h : wX8_readPackage_21 S x1 x2 k) : W p l e (rmF 3 65) s m args below meth c H locs 0 0 (MQ below (QcV G (injR SB) k) args s 0 0 (AG G)) (F0 m 21 ls []) := by
  have key : ∀ (n : Nat) {H : Heap} {locs : List Loc} {ls : Array Slot} {xv1 : Int32} {x1 : Int} {xv2 : Int32} {x2 : Int}, xv1.toInt = x1 → xv2.toInt = x2 → Wd G ((injR SB) S) H → va_S (AG G) s.heap H locs → lv_has ls 3 [(0, .ref (G.2.2 1042)), (1, .int xv1), (2, .int xv2)] → itP (fun (P : Int × Int → Prop) (a : Int × Int) => wX8_readPackage_21_b S a.1 a.2 (fun b0 b1 => P (b0, b1)) k) n (x1, x2) → W p l e (rmF 3 65) s m args below meth c H locs 0 0 (MQ below (QcV G (injR SB) k) args s 0 0 (AG G)) (F0 m 21 ls []) := by
    intro n
    induction n with
    | zero => intro H locs ls xv1 x1 xv2 x2 xt1 xt2 hw hS hl h; exact h.elim
    | succ n ih =>
      intro H locs ls xv1 x1 xv2 x2 xt1 xt2 hw hS hl h
      exact uX8_readPackage_21_b C hw hS xt1 xt2 hl  (P21 := fun b0 b1 => itP _ n (b0, b1)) (fun q0 q1 hw hS hl h => ih q0 q1 hw hS hl h) h
  obtain ⟨n, hn⟩ := h
  exact key n xt1 xt2 hw hS hl hn
set_option maxHeartbeats 4000000 in
set_option maxRecDepth 10000 in
theorem uX8_readPackage_0 {p : Program} {l : Launch} {e : Env} {s : State} {m : MethodId} {args : Array Value} {below : List Frame} {meth : Method} {c : Code} {G : GG} {SB : St} (C : Cx p s m args meth c G RX8 cX8_readPackage 3 none) {S : St} {H : Heap} {locs : List Loc} {ls : Array Slot}  {k : St → Prop} (hw : Wd G ((injR SB) S) H) (hS : va_S (AG G) s.heap H locs)  (hl : lv_has ls 3 [(0, .ref (G.2.2 1042))])  (h : wX8_readPackage_0 S k) : W p l e (rmF 3 65) s m args below meth c H locs 0 0 (MQ below (QcV G (injR SB) k) args s 0 0 (AG G)) (F0 m 0 ls []) := by
  refine lv_aload_n C.1.1 C.1.2.1 dX8_readPackage_0 rfl (lv_at hl 0 rfl) ?_
  refine y_cVV C (As := []) (rest := []) ml_X8_202 (kX8_next l G SB S  h) (ocr SB) (T := TX8) (N := 60) rfl (by decide) ⟨(Nat.le_of_ble_eq_true rfl), (Nat.le_of_ble_eq_true rfl)⟩ hl.1 rfl rfl (Nat.le_of_ble_eq_true rfl) hw hS dX8_readPackage_1 (fun S_1 H locs h hw hS => ?_)
  refine lv_aload_n C.1.1 C.1.2.1 dX8_readPackage_4 rfl (lv_at hl 0 rfl) ?_
  refine y_iconst C dX8_readPackage_5 ⟨by decide, by decide⟩ (fun v2 t2 => ?_)
  refine y_cVIp C (As := [.int v2]) (rest := []) ml_X8_199 (kX8_is l G SB S_1 t2 h) (ocr SB) (T := TX8) (N := 60) rfl (by decide) ⟨(Nat.le_of_ble_eq_true rfl), (Nat.le_of_ble_eq_true rfl)⟩ hl.1 rfl rfl (Nat.le_of_ble_eq_true rfl) hw hS dX8_readPackage_6 (fun v3 x_3 H locs t3 h hw hS => ?_)
  refine y_if_ne C t3 dX8_readPackage_9 (tgt := 17) (by decide) (fun c4 => ?_) (fun c4 => ?_)
  · have h := h.1 c4
    refine y_iconst C dX8_readPackage_17 ⟨by decide, by decide⟩ (fun v5 t5 => ?_)
    refine lv_istore_n (lv' := [(1, .int v5), (0, .ref (G.2.2 1042))]) C.1.1 C.1.2.1 dX8_readPackage_18 rfl hl (by decide) rfl (fun ls hl => ?_)
    refine y_iconst C dX8_readPackage_19 ⟨by decide, by decide⟩ (fun v6 t6 => ?_)
    refine lv_istore_n (lv' := [(2, .int v6), (1, .int v5), (0, .ref (G.2.2 1042))]) C.1.1 C.1.2.1 dX8_readPackage_20 rfl hl (by decide) rfl (fun ls hl => ?_)
    exact uX8_readPackage_21 C hw hS t5 t6 (lv_sub hl [2, 1, 0] rfl)  h
  · have h := h.2 c4
    refine lv_aload_n C.1.1 C.1.2.1 dX8_readPackage_12 rfl (lv_at hl 0 rfl) ?_
    refine y_cVV C (As := []) (rest := []) ml_X8_205 (kX8_odd l G SB S_1  h) (ocr SB) (T := TX8) (N := 60) rfl (by decide) ⟨(Nat.le_of_ble_eq_true rfl), (Nat.le_of_ble_eq_true rfl)⟩ hl.1 rfl rfl (Nat.le_of_ble_eq_true rfl) hw hS dX8_readPackage_13 (fun S_7 H locs h hw hS => ?_)
    exact y_vret C hw hS h dX8_readPackage_16
theorem kX8_readPackage (l : Launch) (G : GG) (SB S : St)  {k : St → Prop} (h : wX8_readPackage S k) : CnV l yX8_readPackage cX8_readPackage 3 none 3 65 G (injR SB) [.ref (G.2.2 1042)] S k :=
  cn_body (by decide +kernel) (Nat.le_of_ble_eq_true rfl) (fun p e s m args below meth c ls C hw hl => uX8_readPackage_0 C hw va_S.rf  (lv_sub hl [0] rfl) h)
set_option maxHeartbeats 4000000 in
set_option maxRecDepth 10000 in
theorem uX8_readLoader_23 {p : Program} {l : Launch} {e : Env} {s : State} {m : MethodId} {args : Array Value} {below : List Frame} {meth : Method} {c : Code} {G : GG} {SB : St} (C : Cx p s m args meth c G RX8 cX8_readLoader 1 none) {S : St} {H : Heap} {locs : List Loc} {ls : Array Slot}  {k : St → Prop} (hw : Wd G ((injR SB) S) H) (hS : va_S (AG G) s.heap H locs)  (hl : lv_has ls 1 [(0, .ref (G.2.2 1042))])  (h : wX8_readLoader_23 S k) : W p l e (rmF 3 65) s m args below meth c H locs 0 0 (MQ below (QcV G (injR SB) k) args s 0 0 (AG G)) (F0 m 23 ls []) := by
  refine lv_aload_n C.1.1 C.1.2.1 dX8_readLoader_23 rfl (lv_at hl 0 rfl) ?_
  refine y_cVV C (As := []) (rest := []) ml_X8_205 (kX8_odd l G SB S  h) (ocr SB) (T := TX8) (N := 60) rfl (by decide) ⟨(Nat.le_of_ble_eq_true rfl), (Nat.le_of_ble_eq_true rfl)⟩ hl.1 rfl rfl (Nat.le_of_ble_eq_true rfl) hw hS dX8_readLoader_24 (fun S_1 H locs h hw hS => ?_)
  exact y_vret C hw hS h dX8_readLoader_27
set_option maxHeartbeats 4000000 in
set_option maxRecDepth 10000 in
theorem uX8_readLoader_0 {p : Program} {l : Launch} {e : Env} {s : State} {m : MethodId} {args : Array Value} {below : List Frame} {meth : Method} {c : Code} {G : GG} {SB : St} (C : Cx p s m args meth c G RX8 cX8_readLoader 1 none) {S : St} {H : Heap} {locs : List Loc} {ls : Array Slot}  {k : St → Prop} (hw : Wd G ((injR SB) S) H) (hS : va_S (AG G) s.heap H locs)  (hl : lv_has ls 1 [(0, .ref (G.2.2 1042))])  (h : wX8_readLoader_0 S k) : W p l e (rmF 3 65) s m args below meth c H locs 0 0 (MQ below (QcV G (injR SB) k) args s 0 0 (AG G)) (F0 m 0 ls []) := by
  refine lv_aload_n C.1.1 C.1.2.1 dX8_readLoader_0 rfl (lv_at hl 0 rfl) ?_
  refine y_cVV C (As := []) (rest := []) ml_X8_202 (kX8_next l G SB S  h) (ocr SB) (T := TX8) (N := 60) rfl (by decide) ⟨(Nat.le_of_ble_eq_true rfl), (Nat.le_of_ble_eq_true rfl)⟩ hl.1 rfl rfl (Nat.le_of_ble_eq_true rfl) hw hS dX8_readLoader_1 (fun S_1 H locs h hw hS => ?_)
  refine lv_aload_n C.1.1 C.1.2.1 dX8_readLoader_4 rfl (lv_at hl 0 rfl) ?_
  refine y_iconst C dX8_readLoader_5 ⟨by decide, by decide⟩ (fun v2 t2 => ?_)
  refine y_cVIp C (As := [.int v2]) (rest := []) ml_X8_199 (kX8_is l G SB S_1 t2 h) (ocr SB) (T := TX8) (N := 60) rfl (by decide) ⟨(Nat.le_of_ble_eq_true rfl), (Nat.le_of_ble_eq_true rfl)⟩ hl.1 rfl rfl (Nat.le_of_ble_eq_true rfl) hw hS dX8_readLoader_6 (fun v3 x_3 H locs t3 h hw hS => ?_)
  refine y_if_eq C t3 dX8_readLoader_9 (tgt := 23) (by decide) (fun c4 => ?_) (fun c4 => ?_)
  · have h := h.1 c4
    exact uX8_readLoader_23 C hw hS  (lv_sub hl [0] rfl)  h
  · have h := h.2 c4
    refine lv_aload_n C.1.1 C.1.2.1 dX8_readLoader_12 rfl (lv_at hl 0 rfl) ?_
    refine y_getJ C fl_X8_182 hw (ocr SB) rfl dX8_readLoader_13 (fun v5 t5 => ?_)
    refine y_ldc2 C dX8_readLoader_16 (N := 2) (by decide) (cl_X8_253) (fun v6 t6 => ?_)
    refine y_lcmp C t5 t6 dX8_readLoader_19 (fun v7 t7 => ?_)
    refine y_if_le C t7 dX8_readLoader_20 (tgt := 28) (by decide) (fun c8 => ?_) (fun c8 => ?_)
    · have c8 := cmp_le.mp c8
      have h := h.1 c8
      refine lv_aload_n C.1.1 C.1.2.1 dX8_readLoader_28 rfl (lv_at hl 0 rfl) ?_
      refine lv_aload_n C.1.1 C.1.2.1 dX8_readLoader_29 rfl (lv_at hl 0 rfl) ?_
      refine y_getJ C fl_X8_182 hw (ocr SB) rfl dX8_readLoader_30 (fun v9 t9 => ?_)
      refine y_l2i C t9 dX8_readLoader_33 (fun v10 t10 => ?_)
      obtain ⟨S_11, e11⟩ : ∃ z : St, z = up S_1 0 47 (w32 (S_1 0 7)) := ⟨_, rfl⟩
      have h := h S_11 e11
      refine y_putI C fl_X8_255 fp_8_47 hw hS (ocr SB) rfl t10 dX8_readLoader_34 (fun H locs hw hS => ?_)
      have hw : Wd G ((injR SB) S_11) H := by rw [e11]; exact hw
      refine lv_aload_n C.1.1 C.1.2.1 dX8_readLoader_37 rfl (lv_at hl 0 rfl) ?_
      refine y_cVV C (As := []) (rest := []) ml_X8_202 (kX8_next l G SB S_11  h) (ocr SB) (T := TX8) (N := 60) rfl (by decide) ⟨(Nat.le_of_ble_eq_true rfl), (Nat.le_of_ble_eq_true rfl)⟩ hl.1 rfl rfl (Nat.le_of_ble_eq_true rfl) hw hS dX8_readLoader_38 (fun S_12 H locs h hw hS => ?_)
      refine lv_aload_n C.1.1 C.1.2.1 dX8_readLoader_41 rfl (lv_at hl 0 rfl) ?_
      refine y_bipush C dX8_readLoader_42 ⟨by decide, by decide⟩ (fun v13 t13 => ?_)
      refine y_cVV C (As := [.int v13]) (rest := []) ml_X8_249 (kX8_take l G SB S_12 t13 h) (ocr SB) (T := TX8) (N := 60) rfl (by decide) ⟨(Nat.le_of_ble_eq_true rfl), (Nat.le_of_ble_eq_true rfl)⟩ hl.1 rfl rfl (Nat.le_of_ble_eq_true rfl) hw hS dX8_readLoader_44 (fun S_14 H locs h hw hS => ?_)
      exact y_vret C hw hS h dX8_readLoader_47
    · have c8 := cmp_gt.mp c8
      have h := h.2 c8
      exact uX8_readLoader_23 C hw hS  (lv_sub hl [0] rfl)  h
theorem kX8_readLoader (l : Launch) (G : GG) (SB S : St)  {k : St → Prop} (h : wX8_readLoader S k) : CnV l yX8_readLoader cX8_readLoader 1 none 3 65 G (injR SB) [.ref (G.2.2 1042)] S k :=
  cn_body (by decide +kernel) (Nat.le_of_ble_eq_true rfl) (fun p e s m args below meth c ls C hw hl => uX8_readLoader_0 C hw va_S.rf  (lv_sub hl [0] rfl) h)
set_option maxHeartbeats 4000000 in
set_option maxRecDepth 10000 in
theorem uX8_readVars_154 {p : Program} {l : Launch} {e : Env} {s : State} {m : MethodId} {args : Array Value} {below : List Frame} {meth : Method} {c : Code} {G : GG} {SB : St} (C : Cx p s m args meth c G RX8 cX8_readVars 6 none) {S : St} {H : Heap} {locs : List Loc} {ls : Array Slot}  {k : St → Prop} (hw : Wd G ((injR SB) S) H) (hS : va_S (AG G) s.heap H locs)  (hl : lv_has ls 6 [(0, .ref (G.2.2 1042))])  (h : wX8_readVars_154 S k) : W p l e (rmF 3 65) s m args below meth c H locs 0 0 (MQ below (QcV G (injR SB) k) args s 0 0 (AG G)) (F0 m 154 ls []) := by
  refine lv_aload_n C.1.1 C.1.2.1 dX8_readVars_154 rfl (lv_at hl 0 rfl) ?_
  refine y_cVV C (As := []) (rest := []) ml_X8_205 (kX8_odd l G SB S  h) (ocr SB) (T := TX8) (N := 60) rfl (by decide) ⟨(Nat.le_of_ble_eq_true rfl), (Nat.le_of_ble_eq_true rfl)⟩ hl.1 rfl rfl (Nat.le_of_ble_eq_true rfl) hw hS dX8_readVars_155 (fun S_1 H locs h hw hS => ?_)
  exact y_vret C hw hS h dX8_readVars_158
set_option maxHeartbeats 4000000 in
set_option maxRecDepth 10000 in
theorem uX8_readVars_196 {p : Program} {l : Launch} {e : Env} {s : State} {m : MethodId} {args : Array Value} {below : List Frame} {meth : Method} {c : Code} {G : GG} {SB : St} (C : Cx p s m args meth c G RX8 cX8_readVars 6 none) {S : St} {H : Heap} {locs : List Loc} {ls : Array Slot} {P12 : Int → St → Prop} {k : St → Prop} (hw : Wd G ((injR SB) S) H) (hS : va_S (AG G) s.heap H locs) {xv1 : Int32} {x1 : Int} (xt1 : xv1.toInt = x1) {xv2 : Int32} {x2 : Int} (xt2 : xv2.toInt = x2) {sv0 : Int32} {s0 : Int} (st0 : sv0.toInt = s0) (hl : lv_has ls 6 [(0, .ref (G.2.2 1042)), (1, .int xv1), (2, .int xv2)]) (hP12 : ∀ {H : Heap} {locs : List Loc} {ls : Array Slot} {Sy : St} {yv3 : Int32} {y3 : Int}, yv3.toInt = y3 → Wd G ((injR SB) Sy) H → va_S (AG G) s.heap H locs → lv_has ls 6 [(0, .ref (G.2.2 1042)), (1, .int xv1), (2, .int xv2), (3, .int yv3)] → P12 y3 Sy → W p l e (rmF 3 65) s m args below meth c H locs 0 0 (MQ below (QcV G (injR SB) k) args s 0 0 (AG G)) (F0 m 12 ls [])) (h : wX8_readVars_196 S x1 x2 s0 P12 k) : W p l e (rmF 3 65) s m args below meth c H locs 0 0 (MQ below (QcV G (injR SB) k) args s 0 0 (AG G)) (F0 m 196 ls [.int sv0]) := by
  refine lv_istore_n (lv' := [(3, .int sv0), (0, .ref (G.2.2 1042)), (1, .int xv1), (2, .int xv2)]) C.1.1 C.1.2.1 dX8_readVars_196 rfl hl (by decide) rfl (fun ls hl => ?_)
  refine lv_iload_n C.1.1 C.1.2.1 dX8_readVars_197 rfl (lv_at hl 0 rfl) ?_
  refine y_if_eq C st0 dX8_readVars_198 (tgt := 205) (by decide) (fun c1 => ?_) (fun c1 => ?_)
  · have h := h.1 c1
    refine lv_goto (tgt := 12) C.1.1 C.1.2.1 dX8_readVars_205 (by decide) ?_
    exact hP12 st0 hw hS (lv_sub hl [1, 2, 3, 0] rfl) h
  · have h := h.2 c1
    refine lv_aload_n C.1.1 C.1.2.1 dX8_readVars_201 rfl (lv_at hl 1 rfl) ?_
    refine y_cVV C (As := []) (rest := []) ml_X8_202 (kX8_next l G SB S  h) (ocr SB) (T := TX8) (N := 60) rfl (by decide) ⟨(Nat.le_of_ble_eq_true rfl), (Nat.le_of_ble_eq_true rfl)⟩ hl.1 rfl rfl (Nat.le_of_ble_eq_true rfl) hw hS dX8_readVars_202 (fun S_2 H locs h hw hS => ?_)
    refine lv_goto (tgt := 12) C.1.1 C.1.2.1 dX8_readVars_205 (by decide) ?_
    exact hP12 st0 hw hS (lv_sub hl [1, 2, 3, 0] rfl) h
set_option maxHeartbeats 4000000 in
set_option maxRecDepth 10000 in
theorem uX8_readVars_195 {p : Program} {l : Launch} {e : Env} {s : State} {m : MethodId} {args : Array Value} {below : List Frame} {meth : Method} {c : Code} {G : GG} {SB : St} (C : Cx p s m args meth c G RX8 cX8_readVars 6 none) {S : St} {H : Heap} {locs : List Loc} {ls : Array Slot} {P12 : Int → St → Prop} {k : St → Prop} (hw : Wd G ((injR SB) S) H) (hS : va_S (AG G) s.heap H locs) {xv1 : Int32} {x1 : Int} (xt1 : xv1.toInt = x1) {xv2 : Int32} {x2 : Int} (xt2 : xv2.toInt = x2) (hl : lv_has ls 6 [(0, .ref (G.2.2 1042)), (1, .int xv1), (2, .int xv2)]) (hP12 : ∀ {H : Heap} {locs : List Loc} {ls : Array Slot} {Sy : St} {yv3 : Int32} {y3 : Int}, yv3.toInt = y3 → Wd G ((injR SB) Sy) H → va_S (AG G) s.heap H locs → lv_has ls 6 [(0, .ref (G.2.2 1042)), (1, .int xv1), (2, .int xv2), (3, .int yv3)] → P12 y3 Sy → W p l e (rmF 3 65) s m args below meth c H locs 0 0 (MQ below (QcV G (injR SB) k) args s 0 0 (AG G)) (F0 m 12 ls [])) (h : wX8_readVars_195 S x1 x2 P12 k) : W p l e (rmF 3 65) s m args below meth c H locs 0 0 (MQ below (QcV G (injR SB) k) args s 0 0 (AG G)) (F0 m 195 ls []) := by
  refine y_iconst C dX8_readVars_195 ⟨by decide, by decide⟩ (fun v1 t1 => ?_)
  exact uX8_readVars_196 C hw hS xt1 xt2 t1 (lv_sub hl [0, 1, 2] rfl) hP12 h
set_option maxHeartbeats 4000000 in
set_option maxRecDepth 10000 in
theorem uX8_readVars_172 {p : Program} {l : Launch} {e : Env} {s : State} {m : MethodId} {args : Array Value} {below : List Frame} {meth : Method} {c : Code} {G : GG} {SB : St} (C : Cx p s m args meth c G RX8 cX8_readVars 6 none) {S : St} {H : Heap} {locs : List Loc} {ls : Array Slot} {P12 : Int → St → Prop} {k : St → Prop} (hw : Wd G ((injR SB) S) H) (hS : va_S (AG G) s.heap H locs) {xv1 : Int32} {x1 : Int} (xt1 : xv1.toInt = x1) {xv2 : Int32} {x2 : Int} (xt2 : xv2.toInt = x2) (hl : lv_has ls 6 [(0, .ref (G.2.2 1042)), (1, .int xv1), (2, .int xv2)]) (hP12 : ∀ {H : Heap} {locs : List Loc} {ls : Array Slot} {Sy : St} {yv3 : Int32} {y3 : Int}, yv3.toInt = y3 → Wd G ((injR SB) Sy) H → va_S (AG G) s.heap H locs → lv_has ls 6 [(0, .ref (G.2.2 1042)), (1, .int xv1), (2, .int xv2), (3, .int yv3)] → P12 y3 Sy → W p l e (rmF 3 65) s m args below meth c H locs 0 0 (MQ below (QcV G (injR SB) k) args s 0 0 (AG G)) (F0 m 12 ls [])) (h : wX8_readVars_172 S x1 x2 P12 k) : W p l e (rmF 3 65) s m args below meth c H locs 0 0 (MQ below (QcV G (injR SB) k) args s 0 0 (AG G)) (F0 m 172 ls []) := by
  refine lv_aload_n C.1.1 C.1.2.1 dX8_readVars_172 rfl (lv_at hl 0 rfl) ?_
  refine y_bipush C dX8_readVars_173 ⟨by decide, by decide⟩ (fun v1 t1 => ?_)
  refine y_cVIp C (As := [.int v1]) (rest := []) ml_X8_199 (kX8_is l G SB S t1 h) (ocr SB) (T := TX8) (N := 60) rfl (by decide) ⟨(Nat.le_of_ble_eq_true rfl), (Nat.le_of_ble_eq_true rfl)⟩ hl.1 rfl rfl (Nat.le_of_ble_eq_true rfl) hw hS dX8_readVars_175 (fun v2 x_2 H locs t2 h hw hS => ?_)
  refine y_if_eq C t2 dX8_readVars_178 (tgt := 195) (by decide) (fun c3 => ?_) (fun c3 => ?_)
  · have h := h.1 c3
    exact uX8_readVars_195 C hw hS xt1 xt2 (lv_sub hl [0, 1, 2] rfl) hP12 h
  · have h := h.2 c3
    refine lv_aload_n C.1.1 C.1.2.1 dX8_readVars_181 rfl (lv_at hl 0 rfl) ?_
    refine y_getA C fl_X8_76 hw (ocr SB) rfl (o := 13) rfl dX8_readVars_182 ?_
    refine lv_iload_n C.1.1 C.1.2.1 dX8_readVars_185 rfl (lv_at hl 2 rfl) ?_
    obtain ⟨b5, h⟩ := h
    refine y_iald C hw (acr_22 SB) xt2 b5 dX8_readVars_186 (fun v5 t5 => ?_)
    refine y_iconst C dX8_readVars_187 ⟨by decide, by decide⟩ (fun v6 t6 => ?_)
    refine y_icmp_ge C t5 t6 dX8_readVars_188 (tgt := 195) (by decide) (fun c7 => ?_) (fun c7 => ?_)
    · have h := h.1 c7
      exact uX8_readVars_195 C hw hS xt1 xt2 (lv_sub hl [0, 1, 2] rfl) hP12 h
    · have h := h.2 c7
      refine y_iconst C dX8_readVars_191 ⟨by decide, by decide⟩ (fun v8 t8 => ?_)
      refine lv_goto (tgt := 196) C.1.1 C.1.2.1 dX8_readVars_192 (by decide) ?_
      exact uX8_readVars_196 C hw hS xt1 xt2 t8 (lv_sub hl [0, 1, 2] rfl) hP12 h
set_option maxHeartbeats 4000000 in
set_option maxRecDepth 10000 in
theorem uX8_readVars_130 {p : Program} {l : Launch} {e : Env} {s : State} {m : MethodId} {args : Array Value} {below : List Frame} {meth : Method} {c : Code} {G : GG} {SB : St} (C : Cx p s m args meth c G RX8 cX8_readVars 6 none) {S : St} {H : Heap} {locs : List Loc} {ls : Array Slot} {P12 : Int → St → Prop} {k : St → Prop} (hw : Wd G ((injR SB) S) H) (hS : va_S (AG G) s.heap H locs) {xv1 : Int32} {x1 : Int} (xt1 : xv1.toInt = x1) {xv2 : Int32} {x2 : Int} (xt2 : xv2.toInt = x2) {xv4 : Int32} {x4 : Int} (xt4 : xv4.toInt = x4) {sv0 : Int32} {s0 : Int} (st0 : sv0.toInt = s0) (hl : lv_has ls 6 [(0, .ref (G.2.2 1042)), (1, .int xv1), (2, .int xv2), (4, .int xv4)]) (hP12 : ∀ {H : Heap} {locs : List Loc} {ls : Array Slot} {Sy : St} {yv3 : Int32} {y3 : Int}, yv3.toInt = y3 → Wd G ((injR SB) Sy) H → va_S (AG G) s.heap H locs → lv_has ls 6 [(0, .ref (G.2.2 1042)), (1, .int xv1), (2, .int xv2), (3, .int yv3)] → P12 y3 Sy → W p l e (rmF 3 65) s m args below meth c H locs 0 0 (MQ below (QcV G (injR SB) k) args s 0 0 (AG G)) (F0 m 12 ls [])) (h : wX8_readVars_130 S x1 x2 x4 s0 P12 k) : W p l e (rmF 3 65) s m args below meth c H locs 0 0 (MQ below (QcV G (injR SB) k) args s 0 0 (AG G)) (F0 m 130 ls [.int sv0]) := by
  refine lv_istore (lv' := [(5, .int sv0), (0, .ref (G.2.2 1042)), (1, .int xv1), (2, .int xv2), (4, .int xv4)]) C.1.1 C.1.2.1 dX8_readVars_130 hl (by decide) rfl (fun ls hl => ?_)
  refine lv_iload C.1.1 C.1.2.1 dX8_readVars_132 (lv_at hl 0 rfl) ?_
  refine y_if_ge C st0 dX8_readVars_134 (tgt := 159) (by decide) (fun c1 => ?_) (fun c1 => ?_)
  · have h := h.1 c1
    refine lv_aload_n C.1.1 C.1.2.1 dX8_readVars_159 rfl (lv_at hl 1 rfl) ?_
    refine y_getA C fl_X8_82 hw (ocr SB) rfl (o := 15) rfl dX8_readVars_160 ?_
    refine lv_iload C.1.1 C.1.2.1 dX8_readVars_163 (lv_at hl 4 rfl) ?_
    refine lv_iload C.1.1 C.1.2.1 dX8_readVars_165 (lv_at hl 0 rfl) ?_
    obtain ⟨b3, h⟩ := h
    obtain ⟨S_3, e3⟩ : ∃ z : St, z = up S 15 x4 s0 := ⟨_, rfl⟩
    have h := h S_3 e3
    refine y_iast C hw hS (acr_24 SB) xt4 st0 b3 dX8_readVars_167 (fun H locs hw hS => ?_)
    have hw : Wd G ((injR SB) S_3) H := by rw [e3]; exact hw
    refine lv_aload_n C.1.1 C.1.2.1 dX8_readVars_168 rfl (lv_at hl 1 rfl) ?_
    refine y_cVV C (As := []) (rest := []) ml_X8_202 (kX8_next l G SB S_3  h) (ocr SB) (T := TX8) (N := 60) rfl (by decide) ⟨(Nat.le_of_ble_eq_true rfl), (Nat.le_of_ble_eq_true rfl)⟩ hl.1 rfl rfl (Nat.le_of_ble_eq_true rfl) hw hS dX8_readVars_169 (fun S_4 H locs h hw hS => ?_)
    exact uX8_readVars_172 C hw hS xt1 xt2 (lv_sub hl [1, 2, 3] rfl) hP12 h
  · have h := h.2 c1
    refine lv_aload_n C.1.1 C.1.2.1 dX8_readVars_137 rfl (lv_at hl 1 rfl) ?_
    refine y_iconst C dX8_readVars_138 ⟨by decide, by decide⟩ (fun v5 t5 => ?_)
    refine y_cVIp C (As := [.int v5]) (rest := []) ml_X8_199 (kX8_is l G SB S t5 h) (ocr SB) (T := TX8) (N := 60) rfl (by decide) ⟨(Nat.le_of_ble_eq_true rfl), (Nat.le_of_ble_eq_true rfl)⟩ hl.1 rfl rfl (Nat.le_of_ble_eq_true rfl) hw hS dX8_readVars_139 (fun v6 x_6 H locs t6 h hw hS => ?_)
    refine y_if_eq C t6 dX8_readVars_142 (tgt := 154) (by decide) (fun c7 => ?_) (fun c7 => ?_)
    · have h := h.1 c7
      exact uX8_readVars_154 C hw hS  (lv_sub hl [1] rfl)  h
    · have h := h.2 c7
      refine lv_aload_n C.1.1 C.1.2.1 dX8_readVars_145 rfl (lv_at hl 1 rfl) ?_
      refine y_iconst C dX8_readVars_146 ⟨by decide, by decide⟩ (fun v8 t8 => ?_)
      refine lv_aload_n C.1.1 C.1.2.1 dX8_readVars_147 rfl (lv_at hl 1 rfl) ?_
      refine y_getI C fl_X8_172 hw (ocr SB) rfl dX8_readVars_148 (fun v9 t9 => ?_)
      refine y_cVV C (As := [.int v8, .int v9]) (rest := []) ml_X8_195 (kX8_fails l G SB S t8 t9 h) (ocr SB) (T := TX8) (N := 60) rfl (by decide) ⟨(Nat.le_of_ble_eq_true rfl), (Nat.le_of_ble_eq_true rfl)⟩ hl.1 rfl rfl (Nat.le_of_ble_eq_true rfl) hw hS dX8_readVars_151 (fun S_10 H locs h hw hS => ?_)
      exact uX8_readVars_154 C hw hS  (lv_sub hl [1] rfl)  h
set_option maxHeartbeats 4000000 in
set_option maxRecDepth 10000 in
theorem uX8_readVars_12_b {p : Program} {l : Launch} {e : Env} {s : State} {m : MethodId} {args : Array Value} {below : List Frame} {meth : Method} {c : Code} {G : GG} {SB : St} (C : Cx p s m args meth c G RX8 cX8_readVars 6 none) {S : St} {H : Heap} {locs : List Loc} {ls : Array Slot}  {P12 : Int → St → Prop} {k : St → Prop} (hw : Wd G ((injR SB) S) H) (hS : va_S (AG G) s.heap H locs) {xv1 : Int32} {x1 : Int} (xt1 : xv1.toInt = x1) {xv2 : Int32} {x2 : Int} (xt2 : xv2.toInt = x2) {xv3 : Int32} {x3 : Int} (xt3 : xv3.toInt = x3) (hl : lv_has ls 6 [(0, .ref (G.2.2 1042)), (1, .int xv1), (2, .int xv2), (3, .int xv3)])  (hP12 : ∀ {H : Heap} {locs : List Loc} {ls : Array Slot} {Sy : St} {yv3 : Int32} {y3 : Int}, yv3.toInt = y3 → Wd G ((injR SB) Sy) H → va_S (AG G) s.heap H locs → lv_has ls 6 [(0, .ref (G.2.2 1042)), (1, .int xv1), (2, .int xv2), (3, .int yv3)] → P12 y3 Sy → W p l e (rmF 3 65) s m args below meth c H locs 0 0 (MQ below (QcV G (injR SB) k) args s 0 0 (AG G)) (F0 m 12 ls [])) (h : wX8_readVars_12_b S x1 x2 x3 P12 k) : W p l e (rmF 3 65) s m args below meth c H locs 0 0 (MQ below (QcV G (injR SB) k) args s 0 0 (AG G)) (F0 m 12 ls []) := by
  refine lv_iload_n C.1.1 C.1.2.1 dX8_readVars_12 rfl (lv_at hl 3 rfl) ?_
  refine y_if_eq C xt3 dX8_readVars_13 (tgt := 208) (by decide) (fun c1 => ?_) (fun c1 => ?_)
  · have h := h.1 c1
    refine lv_aload_n C.1.1 C.1.2.1 dX8_readVars_208 rfl (lv_at hl 0 rfl) ?_
    refine y_bipush C dX8_readVars_209 ⟨by decide, by decide⟩ (fun v2 t2 => ?_)
    refine y_cVV C (As := [.int v2]) (rest := []) ml_X8_249 (kX8_take l G SB S t2 h) (ocr SB) (T := TX8) (N := 60) rfl (by decide) ⟨(Nat.le_of_ble_eq_true rfl), (Nat.le_of_ble_eq_true rfl)⟩ hl.1 rfl rfl (Nat.le_of_ble_eq_true rfl) hw hS dX8_readVars_211 (fun S_3 H locs h hw hS => ?_)
    exact y_vret C hw hS h dX8_readVars_214
  · have h := h.2 c1
    refine lv_aload_n C.1.1 C.1.2.1 dX8_readVars_16 rfl (lv_at hl 0 rfl) ?_
    refine y_iconst C dX8_readVars_17 ⟨by decide, by decide⟩ (fun v4 t4 => ?_)
    refine y_cVIp C (As := [.int v4]) (rest := []) ml_X8_199 (kX8_is l G SB S t4 h) (ocr SB) (T := TX8) (N := 60) rfl (by decide) ⟨(Nat.le_of_ble_eq_true rfl), (Nat.le_of_ble_eq_true rfl)⟩ hl.1 rfl rfl (Nat.le_of_ble_eq_true rfl) hw hS dX8_readVars_18 (fun v5 x_5 H locs t5 h hw hS => ?_)
    refine y_if_ne C t5 dX8_readVars_21 (tgt := 29) (by decide) (fun c6 => ?_) (fun c6 => ?_)
    · have h := h.1 c6
      refine lv_aload_n C.1.1 C.1.2.1 dX8_readVars_29 rfl (lv_at hl 0 rfl) ?_
      refine lv_aload_n C.1.1 C.1.2.1 dX8_readVars_30 rfl (lv_at hl 0 rfl) ?_
      refine y_getJ C fl_X8_182 hw (ocr SB) rfl dX8_readVars_31 (fun v7 t7 => ?_)
      refine lv_iload_n C.1.1 C.1.2.1 dX8_readVars_34 rfl (lv_at hl 1 rfl) ?_
      refine y_cVIp C (As := [.long v7, .int xv1]) (rest := []) ml_X8_239 (kX8_varNamed l G SB S t7 xt1 h) (ocr SB) (T := TX8) (N := 60) rfl (by decide) ⟨(Nat.le_of_ble_eq_true rfl), (Nat.le_of_ble_eq_true rfl)⟩ hl.1 rfl rfl (Nat.le_of_ble_eq_true rfl) hw hS dX8_readVars_35 (fun v8 x_8 H locs t8 h hw hS => ?_)
      refine y_if_lt C t8 dX8_readVars_38 (tgt := 51) (by decide) (fun c9 => ?_) (fun c9 => ?_)
      · have h := h.1 c9
        refine y_iconst C dX8_readVars_51 ⟨by decide, by decide⟩ (fun v10 t10 => ?_)
        refine lv_iload_n C.1.1 C.1.2.1 dX8_readVars_52 rfl (lv_at hl 2 rfl) ?_
        refine y_imul C t10 xt2 dX8_readVars_53 (fun v11 t11 => ?_)
        refine lv_aload_n C.1.1 C.1.2.1 dX8_readVars_54 rfl (lv_at hl 0 rfl) ?_
        refine y_getA C fl_X8_76 hw (ocr SB) rfl (o := 13) rfl dX8_readVars_55 ?_
        refine lv_iload_n C.1.1 C.1.2.1 dX8_readVars_58 rfl (lv_at hl 2 rfl) ?_
        obtain ⟨b13, h⟩ := h
        refine y_iald C hw (acr_22 SB) xt2 b13 dX8_readVars_59 (fun v13 t13 => ?_)
        refine y_iadd C t11 t13 dX8_readVars_60 (fun v14 t14 => ?_)
        obtain ⟨x_15, e15⟩ : ∃ z : Int, z = w32 (w32 (2 * x2) + S 13 x2) := ⟨_, rfl⟩
        have h := h x_15 e15
        have t15 := t14.trans e15.symm
        refine lv_istore (lv' := [(4, .int v14), (0, .ref (G.2.2 1042)), (1, .int xv1), (2, .int xv2), (3, .int xv3)]) C.1.1 C.1.2.1 dX8_readVars_61 hl (by decide) rfl (fun ls hl => ?_)
        refine lv_aload_n C.1.1 C.1.2.1 dX8_readVars_63 rfl (lv_at hl 1 rfl) ?_
        refine y_getA C fl_X8_79 hw (ocr SB) rfl (o := 14) rfl dX8_readVars_64 ?_
        refine lv_iload C.1.1 C.1.2.1 dX8_readVars_67 (lv_at hl 0 rfl) ?_
        refine lv_aload_n C.1.1 C.1.2.1 dX8_readVars_69 rfl (lv_at hl 1 rfl) ?_
        refine y_getJ C fl_X8_182 hw (ocr SB) rfl dX8_readVars_70 (fun v17 t17 => ?_)
        obtain ⟨b18, h⟩ := h
        obtain ⟨S_18, e18⟩ : ∃ z : St, z = up S 14 x_15 (S 0 7) := ⟨_, rfl⟩
        have h := h S_18 e18
        refine y_last C hw hS (acr_23 SB) t15 t17 b18 dX8_readVars_73 (fun H locs hw hS => ?_)
        have hw : Wd G ((injR SB) S_18) H := by rw [e18]; exact hw
        refine lv_aload_n C.1.1 C.1.2.1 dX8_readVars_74 rfl (lv_at hl 1 rfl) ?_
        refine y_getA C fl_X8_82 hw (ocr SB) rfl (o := 15) rfl dX8_readVars_75 ?_
        refine lv_iload C.1.1 C.1.2.1 dX8_readVars_78 (lv_at hl 0 rfl) ?_
        refine y_iconst C dX8_readVars_80 ⟨by decide, by decide⟩ (fun v20 t20 => ?_)
        obtain ⟨b21, h⟩ := h
        obtain ⟨S_21, e21⟩ : ∃ z : St, z = up S_18 15 x_15 (-1) := ⟨_, rfl⟩
        have h := h S_21 e21
        refine y_iast C hw hS (acr_24 SB) t15 t20 b21 dX8_readVars_81 (fun H locs hw hS => ?_)
        have hw : Wd G ((injR SB) S_21) H := by rw [e21]; exact hw
        refine lv_aload_n C.1.1 C.1.2.1 dX8_readVars_82 rfl (lv_at hl 1 rfl) ?_
        refine y_getA C fl_X8_76 hw (ocr SB) rfl (o := 13) rfl dX8_readVars_83 ?_
        refine lv_iload_n C.1.1 C.1.2.1 dX8_readVars_86 rfl (lv_at hl 3 rfl) ?_
        refine lv_dup2_11 C.1.1 C.1.2.1 dX8_readVars_87 rfl rfl ?_
        obtain ⟨b23, h⟩ := h
        refine y_iald C hw (acr_22 SB) xt2 b23 dX8_readVars_88 (fun v23 t23 => ?_)
        refine y_iconst C dX8_readVars_89 ⟨by decide, by decide⟩ (fun v24 t24 => ?_)
        refine y_iadd C t23 t24 dX8_readVars_90 (fun v25 t25 => ?_)
        obtain ⟨b26, h⟩ := h
        obtain ⟨S_26, e26⟩ : ∃ z : St, z = up S_21 13 x2 (w32 (S_21 13 x2 + 1)) := ⟨_, rfl⟩
        have h := h S_26 e26
        refine y_iast C hw hS (acr_22 SB) xt2 t25 b26 dX8_readVars_91 (fun H locs hw hS => ?_)
        have hw : Wd G ((injR SB) S_26) H := by rw [e26]; exact hw
        refine lv_aload_n C.1.1 C.1.2.1 dX8_readVars_92 rfl (lv_at hl 1 rfl) ?_
        refine y_cVV C (As := []) (rest := []) ml_X8_202 (kX8_next l G SB S_26  h) (ocr SB) (T := TX8) (N := 60) rfl (by decide) ⟨(Nat.le_of_ble_eq_true rfl), (Nat.le_of_ble_eq_true rfl)⟩ hl.1 rfl rfl (Nat.le_of_ble_eq_true rfl) hw hS dX8_readVars_93 (fun S_27 H locs h hw hS => ?_)
        refine lv_aload_n C.1.1 C.1.2.1 dX8_readVars_96 rfl (lv_at hl 1 rfl) ?_
        refine y_bipush C dX8_readVars_97 ⟨by decide, by decide⟩ (fun v28 t28 => ?_)
        refine y_cVIp C (As := [.int v28]) (rest := []) ml_X8_199 (kX8_is l G SB S_27 t28 h) (ocr SB) (T := TX8) (N := 60) rfl (by decide) ⟨(Nat.le_of_ble_eq_true rfl), (Nat.le_of_ble_eq_true rfl)⟩ hl.1 rfl rfl (Nat.le_of_ble_eq_true rfl) hw hS dX8_readVars_99 (fun v29 x_29 H locs t29 h hw hS => ?_)
        refine y_if_eq C t29 dX8_readVars_102 (tgt := 172) (by decide) (fun c30 => ?_) (fun c30 => ?_)
        · have h := h.1 c30
          exact uX8_readVars_172 C hw hS xt1 xt2 (lv_sub hl [1, 2, 3] rfl) hP12 h
        · have h := h.2 c30
          refine lv_aload_n C.1.1 C.1.2.1 dX8_readVars_105 rfl (lv_at hl 1 rfl) ?_
          refine y_cVV C (As := []) (rest := []) ml_X8_202 (kX8_next l G SB S_27  h) (ocr SB) (T := TX8) (N := 60) rfl (by decide) ⟨(Nat.le_of_ble_eq_true rfl), (Nat.le_of_ble_eq_true rfl)⟩ hl.1 rfl rfl (Nat.le_of_ble_eq_true rfl) hw hS dX8_readVars_106 (fun S_31 H locs h hw hS => ?_)
          refine lv_aload_n C.1.1 C.1.2.1 dX8_readVars_109 rfl (lv_at hl 1 rfl) ?_
          refine y_iconst C dX8_readVars_110 ⟨by decide, by decide⟩ (fun v32 t32 => ?_)
          refine y_cVIp C (As := [.int v32]) (rest := []) ml_X8_199 (kX8_is l G SB S_31 t32 h) (ocr SB) (T := TX8) (N := 60) rfl (by decide) ⟨(Nat.le_of_ble_eq_true rfl), (Nat.le_of_ble_eq_true rfl)⟩ hl.1 rfl rfl (Nat.le_of_ble_eq_true rfl) hw hS dX8_readVars_111 (fun v33 x_33 H locs t33 h hw hS => ?_)
          refine y_if_eq C t33 dX8_readVars_114 (tgt := 129) (by decide) (fun c34 => ?_) (fun c34 => ?_)
          · have h := h.1 c34
            refine y_iconst C dX8_readVars_129 ⟨by decide, by decide⟩ (fun v35 t35 => ?_)
            exact uX8_readVars_130 C hw hS xt1 xt2 t15 t35 (lv_sub hl [1, 2, 3, 0] rfl) hP12 h
          · have h := h.2 c34
            refine lv_aload_n C.1.1 C.1.2.1 dX8_readVars_117 rfl (lv_at hl 1 rfl) ?_
            refine lv_aload_n C.1.1 C.1.2.1 dX8_readVars_118 rfl (lv_at hl 1 rfl) ?_
            refine y_getJ C fl_X8_182 hw (ocr SB) rfl dX8_readVars_119 (fun v36 t36 => ?_)
            refine lv_iload_n C.1.1 C.1.2.1 dX8_readVars_122 rfl (lv_at hl 2 rfl) ?_
            refine y_cVIp C (As := [.long v36, .int xv1]) (rest := []) ml_X8_243 (kX8_seenType l G SB S_31 t36 xt1 h) (ocr SB) (T := TX8) (N := 60) rfl (by decide) ⟨(Nat.le_of_ble_eq_true rfl), (Nat.le_of_ble_eq_true rfl)⟩ hl.1 rfl rfl (Nat.le_of_ble_eq_true rfl) hw hS dX8_readVars_123 (fun v37 x_37 H locs t37 h hw hS => ?_)
            refine lv_goto (tgt := 130) C.1.1 C.1.2.1 dX8_readVars_126 (by decide) ?_
            exact uX8_readVars_130 C hw hS xt1 xt2 t15 t37 (lv_sub hl [1, 2, 3, 0] rfl) hP12 h
      · have h := h.2 c9
        refine lv_aload_n C.1.1 C.1.2.1 dX8_readVars_41 rfl (lv_at hl 0 rfl) ?_
        refine y_iconst C dX8_readVars_42 ⟨by decide, by decide⟩ (fun v38 t38 => ?_)
        refine lv_aload_n C.1.1 C.1.2.1 dX8_readVars_43 rfl (lv_at hl 0 rfl) ?_
        refine y_getI C fl_X8_172 hw (ocr SB) rfl dX8_readVars_44 (fun v39 t39 => ?_)
        refine y_cVV C (As := [.int v38, .int v39]) (rest := []) ml_X8_195 (kX8_fails l G SB S t38 t39 h) (ocr SB) (T := TX8) (N := 60) rfl (by decide) ⟨(Nat.le_of_ble_eq_true rfl), (Nat.le_of_ble_eq_true rfl)⟩ hl.1 rfl rfl (Nat.le_of_ble_eq_true rfl) hw hS dX8_readVars_47 (fun S_40 H locs h hw hS => ?_)
        exact y_vret C hw hS h dX8_readVars_50
    · have h := h.2 c6
      refine lv_aload_n C.1.1 C.1.2.1 dX8_readVars_24 rfl (lv_at hl 0 rfl) ?_
      refine y_cVV C (As := []) (rest := []) ml_X8_205 (kX8_odd l G SB S  h) (ocr SB) (T := TX8) (N := 60) rfl (by decide) ⟨(Nat.le_of_ble_eq_true rfl), (Nat.le_of_ble_eq_true rfl)⟩ hl.1 rfl rfl (Nat.le_of_ble_eq_true rfl) hw hS dX8_readVars_25 (fun S_41 H locs h hw hS => ?_)
      exact y_vret C hw hS h dX8_readVars_28
set_option maxHeartbeats 4000000 in
set_option maxRecDepth 10000 in
theorem uX8_readVars_12 {p : Program} {l : Launch} {e : Env} {s : State} {m : MethodId} {args : Array Value} {below : List Frame} {meth : Method} {c : Code} {G : GG} {SB : St} (C : Cx p s m args meth c G RX8 cX8_readVars 6 none) {S : St} {H : Heap} {locs : List Loc} {ls : Array Slot}  {k : St → Prop} (hw : Wd G ((injR SB) S) H) (hS : va_S (AG G) s.heap H locs) {xv1 : Int32} {x1 : Int} (xt1 : xv1.toInt = x1) {xv2 : Int32} {x2 : Int} (xt2 : xv2.toInt = x2) {xv3 : Int32} {x3 : Int} (xt3 : xv3.toInt = x3) (hl : lv_has ls 6 [(0, .ref (G.2.2 1042)), (1, .int xv1), (2, .int xv2), (3, .int xv3)])  (h : wX8_readVars_12 S x1 x2 x3 k) : W p l e (rmF 3 65) s m args below meth c H locs 0 0 (MQ below (QcV G (injR SB) k) args s 0 0 (AG G)) (F0 m 12 ls []) := by
  have key : ∀ (n : Nat) {H : Heap} {locs : List Loc} {ls : Array Slot} {S : St} {xv3 : Int32} {x3 : Int}, xv3.toInt = x3 → Wd G ((injR SB) S) H → va_S (AG G) s.heap H locs → lv_has ls 6 [(0, .ref (G.2.2 1042)), (1, .int xv1), (2, .int xv2), (3, .int xv3)] → itP (fun (P : Int × St → Prop) (a : Int × St) => wX8_readVars_12_b a.2 x1 x2 a.1 (fun b0 b1 => P (b0, b1)) k) n (x3, S) → W p l e (rmF 3 65) s m args below meth c H locs 0 0 (MQ below (QcV G (injR SB) k) args s 0 0 (AG G)) (F0 m 12 ls []) := by
    intro n
    induction n with
    | zero => intro H locs ls S xv3 x3 xt3 hw hS hl h; exact h.elim
    | succ n ih =>
      intro H locs ls S xv3 x3 xt3 hw hS hl h
      exact uX8_readVars_12_b C hw hS xt1 xt2 xt3 hl  (P12 := fun b0 b1 => itP _ n (b0, b1)) (fun q0 hw hS hl h => ih q0 hw hS hl h) h
  obtain ⟨n, hn⟩ := h
  exact key n xt3 hw hS hl hn
set_option maxHeartbeats 4000000 in
set_option maxRecDepth 10000 in
theorem uX8_readVars_0 {p : Program} {l : Launch} {e : Env} {s : State} {m : MethodId} {args : Array Value} {below : List Frame} {meth : Method} {c : Code} {G : GG} {SB : St} (C : Cx p s m args meth c G RX8 cX8_readVars 6 none) {S : St} {H : Heap} {locs : List Loc} {ls : Array Slot}  {k : St → Prop} (hw : Wd G ((injR SB) S) H) (hS : va_S (AG G) s.heap H locs) {xv1 : Int32} {x1 : Int} (xt1 : xv1.toInt = x1) (hl : lv_has ls 6 [(0, .ref (G.2.2 1042)), (1, .int xv1)])  (h : wX8_readVars_0 S x1 k) : W p l e (rmF 3 65) s m args below meth c H locs 0 0 (MQ below (QcV G (injR SB) k) args s 0 0 (AG G)) (F0 m 0 ls []) := by
  refine lv_aload_n C.1.1 C.1.2.1 dX8_readVars_0 rfl (lv_at hl 0 rfl) ?_
  refine lv_iload_n C.1.1 C.1.2.1 dX8_readVars_1 rfl (lv_at hl 1 rfl) ?_
  refine y_cVIp C (As := [.int xv1]) (rest := []) ml_X8_214 (kX8_t l G SB S xt1 h) (ocr SB) (T := TX8) (N := 60) rfl (by decide) ⟨(Nat.le_of_ble_eq_true rfl), (Nat.le_of_ble_eq_true rfl)⟩ hl.1 rfl rfl (Nat.le_of_ble_eq_true rfl) hw hS dX8_readVars_2 (fun v1 x_1 H locs t1 h hw hS => ?_)
  refine lv_istore_n (lv' := [(2, .int v1), (0, .ref (G.2.2 1042)), (1, .int xv1)]) C.1.1 C.1.2.1 dX8_readVars_5 rfl hl (by decide) rfl (fun ls hl => ?_)
  refine y_iconst C dX8_readVars_6 ⟨by decide, by decide⟩ (fun v2 t2 => ?_)
  refine lv_istore_n (lv' := [(3, .int v2), (2, .int v1), (0, .ref (G.2.2 1042)), (1, .int xv1)]) C.1.1 C.1.2.1 dX8_readVars_7 rfl hl (by decide) rfl (fun ls hl => ?_)
  refine lv_aload_n C.1.1 C.1.2.1 dX8_readVars_8 rfl (lv_at hl 2 rfl) ?_
  refine y_cVV C (As := []) (rest := []) ml_X8_202 (kX8_next l G SB S  h) (ocr SB) (T := TX8) (N := 60) rfl (by decide) ⟨(Nat.le_of_ble_eq_true rfl), (Nat.le_of_ble_eq_true rfl)⟩ hl.1 rfl rfl (Nat.le_of_ble_eq_true rfl) hw hS dX8_readVars_9 (fun S_3 H locs h hw hS => ?_)
  exact uX8_readVars_12 C hw hS xt1 t1 t2 (lv_sub hl [2, 3, 1, 0] rfl)  h
theorem kX8_readVars (l : Launch) (G : GG) (SB S : St) {xv1 : Int32} {x1 : Int} (xt1 : xv1.toInt = x1) {k : St → Prop} (h : wX8_readVars S x1 k) : CnV l yX8_readVars cX8_readVars 6 none 3 65 G (injR SB) [.ref (G.2.2 1042), .int xv1] S k :=
  cn_body (by decide +kernel) (Nat.le_of_ble_eq_true rfl) (fun p e s m args below meth c ls C hw hl => uX8_readVars_0 C hw va_S.rf xt1 (lv_sub hl [0, 1] rfl) h)
set_option maxHeartbeats 4000000 in
set_option maxRecDepth 10000 in
theorem uX8_readNest_36 {p : Program} {l : Launch} {e : Env} {s : State} {m : MethodId} {args : Array Value} {below : List Frame} {meth : Method} {c : Code} {G : GG} {SB : St} (C : Cx p s m args meth c G RX8 cX8_readNest 3 none) {S : St} {H : Heap} {locs : List Loc} {ls : Array Slot}  {k : St → Prop} (hw : Wd G ((injR SB) S) H) (hS : va_S (AG G) s.heap H locs)  (hl : lv_has ls 3 [(0, .ref (G.2.2 1042))])  (h : wX8_readNest_36 S k) : W p l e (rmF 2 47) s m args below meth c H locs 0 0 (MQ below (QcV G (injR SB) k) args s 0 0 (AG G)) (F0 m 36 ls []) := by
  refine lv_aload_n C.1.1 C.1.2.1 dX8_readNest_36 rfl (lv_at hl 0 rfl) ?_
  refine y_iconst C dX8_readNest_37 ⟨by decide, by decide⟩ (fun v1 t1 => ?_)
  refine lv_aload_n C.1.1 C.1.2.1 dX8_readNest_38 rfl (lv_at hl 0 rfl) ?_
  refine y_getI C fl_X8_172 hw (ocr SB) rfl dX8_readNest_39 (fun v2 t2 => ?_)
  refine y_cVV C (As := [.int v1, .int v2]) (rest := []) ml_X8_195 (kX8_fails l G SB S t1 t2 h) (ocr SB) (T := TX8) (N := 60) rfl (by decide) ⟨(Nat.le_of_ble_eq_true rfl), (Nat.le_of_ble_eq_true rfl)⟩ hl.1 rfl rfl (Nat.le_of_ble_eq_true rfl) hw hS dX8_readNest_42 (fun S_3 H locs h hw hS => ?_)
  exact y_vret C hw hS h dX8_readNest_45
set_option maxHeartbeats 4000000 in
set_option maxRecDepth 10000 in
theorem uX8_readNest_69 {p : Program} {l : Launch} {e : Env} {s : State} {m : MethodId} {args : Array Value} {below : List Frame} {meth : Method} {c : Code} {G : GG} {SB : St} (C : Cx p s m args meth c G RX8 cX8_readNest 3 none) {S : St} {H : Heap} {locs : List Loc} {ls : Array Slot}  {k : St → Prop} (hw : Wd G ((injR SB) S) H) (hS : va_S (AG G) s.heap H locs)  (hl : lv_has ls 3 [(0, .ref (G.2.2 1042))])  (h : wX8_readNest_69 S k) : W p l e (rmF 2 47) s m args below meth c H locs 0 0 (MQ below (QcV G (injR SB) k) args s 0 0 (AG G)) (F0 m 69 ls []) := by
  refine lv_aload_n C.1.1 C.1.2.1 dX8_readNest_69 rfl (lv_at hl 0 rfl) ?_
  refine y_iconst C dX8_readNest_70 ⟨by decide, by decide⟩ (fun v1 t1 => ?_)
  refine lv_aload_n C.1.1 C.1.2.1 dX8_readNest_71 rfl (lv_at hl 0 rfl) ?_
  refine y_getI C fl_X8_172 hw (ocr SB) rfl dX8_readNest_72 (fun v2 t2 => ?_)
  refine y_cVV C (As := [.int v1, .int v2]) (rest := []) ml_X8_195 (kX8_fails l G SB S t1 t2 h) (ocr SB) (T := TX8) (N := 60) rfl (by decide) ⟨(Nat.le_of_ble_eq_true rfl), (Nat.le_of_ble_eq_true rfl)⟩ hl.1 rfl rfl (Nat.le_of_ble_eq_true rfl) hw hS dX8_readNest_75 (fun S_3 H locs h hw hS => ?_)
  exact y_vret C hw hS h dX8_readNest_78
set_option maxHeartbeats 4000000 in
set_option maxRecDepth 10000 in
theorem uX8_readNest_0 {p : Program} {l : Launch} {e : Env} {s : State} {m : MethodId} {args : Array Value} {below : List Frame} {meth : Method} {c : Code} {G : GG} {SB : St} (C : Cx p s m args meth c G RX8 cX8_readNest 3 none) {S : St} {H : Heap} {locs : List Loc} {ls : Array Slot}  {k : St → Prop} (hw : Wd G ((injR SB) S) H) (hS : va_S (AG G) s.heap H locs) {xv1 : Int32} {x1 : Int} (xt1 : xv1.toInt = x1) (hl : lv_has ls 3 [(0, .ref (G.2.2 1042)), (1, .int xv1)])  (h : wX8_readNest_0 S x1 k) : W p l e (rmF 2 47) s m args below meth c H locs 0 0 (MQ below (QcV G (injR SB) k) args s 0 0 (AG G)) (F0 m 0 ls []) := by
  refine lv_aload_n C.1.1 C.1.2.1 dX8_readNest_0 rfl (lv_at hl 0 rfl) ?_
  refine y_cVV C (As := []) (rest := []) ml_X8_202 (kX8_next l G SB S  h) (ocr SB) (T := TX8) (N := 60) rfl (by decide) ⟨(Nat.le_of_ble_eq_true rfl), (Nat.le_of_ble_eq_true rfl)⟩ hl.1 rfl rfl (Nat.le_of_ble_eq_true rfl) hw hS dX8_readNest_1 (fun S_1 H locs h hw hS => ?_)
  refine lv_aload_n C.1.1 C.1.2.1 dX8_readNest_4 rfl (lv_at hl 0 rfl) ?_
  refine y_iconst C dX8_readNest_5 ⟨by decide, by decide⟩ (fun v2 t2 => ?_)
  refine y_cVIp C (As := [.int v2]) (rest := []) ml_X8_199 (kX8_is l G SB S_1 t2 h) (ocr SB) (T := TX8) (N := 60) rfl (by decide) ⟨(Nat.le_of_ble_eq_true rfl), (Nat.le_of_ble_eq_true rfl)⟩ hl.1 rfl rfl (Nat.le_of_ble_eq_true rfl) hw hS dX8_readNest_6 (fun v3 x_3 H locs t3 h hw hS => ?_)
  refine y_if_ne C t3 dX8_readNest_9 (tgt := 17) (by decide) (fun c4 => ?_) (fun c4 => ?_)
  · have h := h.1 c4
    refine lv_aload_n C.1.1 C.1.2.1 dX8_readNest_17 rfl (lv_at hl 0 rfl) ?_
    refine lv_aload_n C.1.1 C.1.2.1 dX8_readNest_18 rfl (lv_at hl 0 rfl) ?_
    refine y_getJ C fl_X8_182 hw (ocr SB) rfl dX8_readNest_19 (fun v5 t5 => ?_)
    refine lv_iload_n C.1.1 C.1.2.1 dX8_readNest_22 rfl (lv_at hl 1 rfl) ?_
    refine y_cVIp C (As := [.long v5, .int xv1]) (rest := []) ml_X8_243 (kX8_seenType l G SB S_1 t5 xt1 h) (ocr SB) (T := TX8) (N := 60) rfl (by decide) ⟨(Nat.le_of_ble_eq_true rfl), (Nat.le_of_ble_eq_true rfl)⟩ hl.1 rfl rfl (Nat.le_of_ble_eq_true rfl) hw hS dX8_readNest_23 (fun v6 x_6 H locs t6 h hw hS => ?_)
    refine lv_istore_n (lv' := [(2, .int v6), (0, .ref (G.2.2 1042)), (1, .int xv1)]) C.1.1 C.1.2.1 dX8_readNest_26 rfl hl (by decide) rfl (fun ls hl => ?_)
    refine lv_iload_n C.1.1 C.1.2.1 dX8_readNest_27 rfl (lv_at hl 0 rfl) ?_
    refine y_if_lt C t6 dX8_readNest_28 (tgt := 36) (by decide) (fun c7 => ?_) (fun c7 => ?_)
    · have h := h.1 c7
      exact uX8_readNest_36 C hw hS  (lv_sub hl [1] rfl)  h
    · have h := h.2 c7
      refine lv_iload_n C.1.1 C.1.2.1 dX8_readNest_31 rfl (lv_at hl 0 rfl) ?_
      refine lv_iload_n C.1.1 C.1.2.1 dX8_readNest_32 rfl (lv_at hl 2 rfl) ?_
      refine y_icmp_ne C t6 xt1 dX8_readNest_33 (tgt := 46) (by decide) (fun c8 => ?_) (fun c8 => ?_)
      · have h := h.1 c8
        refine lv_aload_n C.1.1 C.1.2.1 dX8_readNest_46 rfl (lv_at hl 1 rfl) ?_
        refine lv_iload_n C.1.1 C.1.2.1 dX8_readNest_47 rfl (lv_at hl 0 rfl) ?_
        refine lv_iload_n C.1.1 C.1.2.1 dX8_readNest_48 rfl (lv_at hl 2 rfl) ?_
        refine y_cVIp C (As := [.int v6, .int xv1]) (rest := []) ml_X8_258 (kX8_isSamePackage l G SB S_1 t6 xt1 h) (ocr SB) (T := TX8) (N := 60) rfl (by decide) ⟨(Nat.le_of_ble_eq_true rfl), (Nat.le_of_ble_eq_true rfl)⟩ hl.1 rfl rfl (Nat.le_of_ble_eq_true rfl) hw hS dX8_readNest_49 (fun v9 x_9 H locs t9 h hw hS => ?_)
        refine y_if_eq C t9 dX8_readNest_52 (tgt := 69) (by decide) (fun c10 => ?_) (fun c10 => ?_)
        · have h := h.1 c10
          exact uX8_readNest_69 C hw hS  (lv_sub hl [1] rfl)  h
        · have h := h.2 c10
          refine lv_aload_n C.1.1 C.1.2.1 dX8_readNest_55 rfl (lv_at hl 1 rfl) ?_
          refine y_getA C fl_X8_73 hw (ocr SB) rfl (o := 12) rfl dX8_readNest_56 ?_
          refine lv_aload_n C.1.1 C.1.2.1 dX8_readNest_59 rfl (lv_at hl 1 rfl) ?_
          refine lv_iload_n C.1.1 C.1.2.1 dX8_readNest_60 rfl (lv_at hl 0 rfl) ?_
          refine y_cVIp C (As := [.int v6]) (rest := [.ref (G.2.2 (1054))]) ml_X8_214 (kX8_t l G SB S_1 t6 h) (ocr SB) (T := TX8) (N := 60) rfl (by decide) ⟨(Nat.le_of_ble_eq_true rfl), (Nat.le_of_ble_eq_true rfl)⟩ hl.1 rfl rfl (Nat.le_of_ble_eq_true rfl) hw hS dX8_readNest_61 (fun v12 x_12 H locs t12 h hw hS => ?_)
          obtain ⟨b13, h⟩ := h
          refine y_iald C hw (acr_21 SB) t12 b13 dX8_readNest_64 (fun v13 t13 => ?_)
          refine lv_iload_n C.1.1 C.1.2.1 dX8_readNest_65 rfl (lv_at hl 0 rfl) ?_
          refine y_icmp_eq C t13 t6 dX8_readNest_66 (tgt := 79) (by decide) (fun c14 => ?_) (fun c14 => ?_)
          · have h := h.1 c14
            refine lv_aload_n C.1.1 C.1.2.1 dX8_readNest_79 rfl (lv_at hl 1 rfl) ?_
            refine y_getA C fl_X8_73 hw (ocr SB) rfl (o := 12) rfl dX8_readNest_80 ?_
            refine lv_aload_n C.1.1 C.1.2.1 dX8_readNest_83 rfl (lv_at hl 1 rfl) ?_
            refine lv_iload_n C.1.1 C.1.2.1 dX8_readNest_84 rfl (lv_at hl 2 rfl) ?_
            refine y_cVIp C (As := [.int xv1]) (rest := [.ref (G.2.2 (1054))]) ml_X8_214 (kX8_t l G SB S_1 xt1 h) (ocr SB) (T := TX8) (N := 60) rfl (by decide) ⟨(Nat.le_of_ble_eq_true rfl), (Nat.le_of_ble_eq_true rfl)⟩ hl.1 rfl rfl (Nat.le_of_ble_eq_true rfl) hw hS dX8_readNest_85 (fun v16 x_16 H locs t16 h hw hS => ?_)
            refine lv_iload_n C.1.1 C.1.2.1 dX8_readNest_88 rfl (lv_at hl 0 rfl) ?_
            obtain ⟨b17, h⟩ := h
            obtain ⟨S_17, e17⟩ : ∃ z : St, z = up S_1 12 x_16 x_6 := ⟨_, rfl⟩
            have h := h S_17 e17
            refine y_iast C hw hS (acr_21 SB) t16 t6 b17 dX8_readNest_89 (fun H locs hw hS => ?_)
            have hw : Wd G ((injR SB) S_17) H := by rw [e17]; exact hw
            refine lv_aload_n C.1.1 C.1.2.1 dX8_readNest_90 rfl (lv_at hl 1 rfl) ?_
            refine y_cVV C (As := []) (rest := []) ml_X8_202 (kX8_next l G SB S_17  h) (ocr SB) (T := TX8) (N := 60) rfl (by decide) ⟨(Nat.le_of_ble_eq_true rfl), (Nat.le_of_ble_eq_true rfl)⟩ hl.1 rfl rfl (Nat.le_of_ble_eq_true rfl) hw hS dX8_readNest_91 (fun S_18 H locs h hw hS => ?_)
            exact y_vret C hw hS h dX8_readNest_94
          · have h := h.2 c14
            exact uX8_readNest_69 C hw hS  (lv_sub hl [1] rfl)  h
      · have h := h.2 c8
        exact uX8_readNest_36 C hw hS  (lv_sub hl [1] rfl)  h
  · have h := h.2 c4
    refine lv_aload_n C.1.1 C.1.2.1 dX8_readNest_12 rfl (lv_at hl 0 rfl) ?_
    refine y_cVV C (As := []) (rest := []) ml_X8_205 (kX8_odd l G SB S_1  h) (ocr SB) (T := TX8) (N := 60) rfl (by decide) ⟨(Nat.le_of_ble_eq_true rfl), (Nat.le_of_ble_eq_true rfl)⟩ hl.1 rfl rfl (Nat.le_of_ble_eq_true rfl) hw hS dX8_readNest_13 (fun S_19 H locs h hw hS => ?_)
    exact y_vret C hw hS h dX8_readNest_16
theorem kX8_readNest (l : Launch) (G : GG) (SB S : St) {xv1 : Int32} {x1 : Int} (xt1 : xv1.toInt = x1) {k : St → Prop} (h : wX8_readNest S x1 k) : CnV l yX8_readNest cX8_readNest 3 none 2 47 G (injR SB) [.ref (G.2.2 1042), .int xv1] S k :=
  cn_body (by decide +kernel) (Nat.le_of_ble_eq_true rfl) (fun p e s m args below meth c ls C hw hl => uX8_readNest_0 C hw va_S.rf xt1 (lv_sub hl [0, 1] rfl) h)
set_option maxHeartbeats 4000000 in
set_option maxRecDepth 10000 in
theorem uX8_readArguments_58 {p : Program} {l : Launch} {e : Env} {s : State} {m : MethodId} {args : Array Value} {below : List Frame} {meth : Method} {c : Code} {G : GG} {SB : St} (C : Cx p s m args meth c G RX8 cX8_readArguments 5 (some .int)) {S : St} {H : Heap} {locs : List Loc} {ls : Array Slot} {P9 : Int → Int → St → Prop} {k : Int → St → Prop} (hw : Wd G ((injR SB) S) H) (hS : va_S (AG G) s.heap H locs) {xv1 : Int32} {x1 : Int} (xt1 : xv1.toInt = x1) {xv2 : Int32} {x2 : Int} (xt2 : xv2.toInt = x2) {xv3 : Int32} {x3 : Int} (xt3 : xv3.toInt = x3) {sv0 : Int32} {s0 : Int} (st0 : sv0.toInt = s0) (hl : lv_has ls 5 [(0, .ref (G.2.2 1042)), (1, .int xv1), (2, .int xv2), (3, .int xv3)]) (hP9 : ∀ {H : Heap} {locs : List Loc} {ls : Array Slot} {Sy : St} {yv3 : Int32} {y3 : Int} {yv4 : Int32} {y4 : Int}, yv3.toInt = y3 → yv4.toInt = y4 → Wd G ((injR SB) Sy) H → va_S (AG G) s.heap H locs → lv_has ls 5 [(0, .ref (G.2.2 1042)), (1, .int xv1), (2, .int xv2), (3, .int yv3), (4, .int yv4)] → P9 y3 y4 Sy → W p l e (rmF 3 70) s m args below meth c H locs 0 0 (MQ below (QcI G (injR SB) k) args s 0 0 (AG G)) (F0 m 9 ls [])) (h : wX8_readArguments_58 S x1 x2 x3 s0 P9 k) : W p l e (rmF 3 70) s m args below meth c H locs 0 0 (MQ below (QcI G (injR SB) k) args s 0 0 (AG G)) (F0 m 58 ls [.int sv0]) := by
  refine lv_istore (lv' := [(4, .int sv0), (0, .ref (G.2.2 1042)), (1, .int xv1), (2, .int xv2), (3, .int xv3)]) C.1.1 C.1.2.1 dX8_readArguments_58 hl (by decide) rfl (fun ls hl => ?_)
  refine lv_iload C.1.1 C.1.2.1 dX8_readArguments_60 (lv_at hl 0 rfl) ?_
  refine y_if_eq C st0 dX8_readArguments_62 (tgt := 9) (by decide) (fun c1 => ?_) (fun c1 => ?_)
  · have h := h.1 c1
    exact hP9 xt3 st0 hw hS (lv_sub hl [1, 2, 3, 4, 0] rfl) h
  · have h := h.2 c1
    refine lv_aload_n C.1.1 C.1.2.1 dX8_readArguments_65 rfl (lv_at hl 1 rfl) ?_
    refine y_cVV C (As := []) (rest := []) ml_X8_202 (kX8_next l G SB S  h) (ocr SB) (T := TX8) (N := 60) rfl (by decide) ⟨(Nat.le_of_ble_eq_true rfl), (Nat.le_of_ble_eq_true rfl)⟩ hl.1 rfl rfl (Nat.le_of_ble_eq_true rfl) hw hS dX8_readArguments_66 (fun S_2 H locs h hw hS => ?_)
    refine lv_goto (tgt := 9) C.1.1 C.1.2.1 dX8_readArguments_69 (by decide) ?_
    exact hP9 xt3 st0 hw hS (lv_sub hl [1, 2, 3, 4, 0] rfl) h
set_option maxHeartbeats 4000000 in
set_option maxRecDepth 10000 in
theorem uX8_readArguments_57 {p : Program} {l : Launch} {e : Env} {s : State} {m : MethodId} {args : Array Value} {below : List Frame} {meth : Method} {c : Code} {G : GG} {SB : St} (C : Cx p s m args meth c G RX8 cX8_readArguments 5 (some .int)) {S : St} {H : Heap} {locs : List Loc} {ls : Array Slot} {P9 : Int → Int → St → Prop} {k : Int → St → Prop} (hw : Wd G ((injR SB) S) H) (hS : va_S (AG G) s.heap H locs) {xv1 : Int32} {x1 : Int} (xt1 : xv1.toInt = x1) {xv2 : Int32} {x2 : Int} (xt2 : xv2.toInt = x2) {xv3 : Int32} {x3 : Int} (xt3 : xv3.toInt = x3) (hl : lv_has ls 5 [(0, .ref (G.2.2 1042)), (1, .int xv1), (2, .int xv2), (3, .int xv3)]) (hP9 : ∀ {H : Heap} {locs : List Loc} {ls : Array Slot} {Sy : St} {yv3 : Int32} {y3 : Int} {yv4 : Int32} {y4 : Int}, yv3.toInt = y3 → yv4.toInt = y4 → Wd G ((injR SB) Sy) H → va_S (AG G) s.heap H locs → lv_has ls 5 [(0, .ref (G.2.2 1042)), (1, .int xv1), (2, .int xv2), (3, .int yv3), (4, .int yv4)] → P9 y3 y4 Sy → W p l e (rmF 3 70) s m args below meth c H locs 0 0 (MQ below (QcI G (injR SB) k) args s 0 0 (AG G)) (F0 m 9 ls [])) (h : wX8_readArguments_57 S x1 x2 x3 P9 k) : W p l e (rmF 3 70) s m args below meth c H locs 0 0 (MQ below (QcI G (injR SB) k) args s 0 0 (AG G)) (F0 m 57 ls []) := by
  refine y_iconst C dX8_readArguments_57 ⟨by decide, by decide⟩ (fun v1 t1 => ?_)
  exact uX8_readArguments_58 C hw hS xt1 xt2 xt3 t1 (lv_sub hl [0, 1, 2, 3] rfl) hP9 h
set_option maxHeartbeats 4000000 in
set_option maxRecDepth 10000 in
theorem uX8_readArguments_72 {p : Program} {l : Launch} {e : Env} {s : State} {m : MethodId} {args : Array Value} {below : List Frame} {meth : Method} {c : Code} {G : GG} {SB : St} (C : Cx p s m args meth c G RX8 cX8_readArguments 5 (some .int)) {S : St} {H : Heap} {locs : List Loc} {ls : Array Slot}  {k : Int → St → Prop} (hw : Wd G ((injR SB) S) H) (hS : va_S (AG G) s.heap H locs) {xv3 : Int32} {x3 : Int} (xt3 : xv3.toInt = x3) (hl : lv_has ls 5 [(0, .ref (G.2.2 1042)), (3, .int xv3)])  (h : wX8_readArguments_72 S x3 k) : W p l e (rmF 3 70) s m args below meth c H locs 0 0 (MQ below (QcI G (injR SB) k) args s 0 0 (AG G)) (F0 m 72 ls []) := by
  refine lv_aload_n C.1.1 C.1.2.1 dX8_readArguments_72 rfl (lv_at hl 0 rfl) ?_
  refine y_bipush C dX8_readArguments_73 ⟨by decide, by decide⟩ (fun v1 t1 => ?_)
  refine y_cVV C (As := [.int v1]) (rest := []) ml_X8_249 (kX8_take l G SB S t1 h) (ocr SB) (T := TX8) (N := 60) rfl (by decide) ⟨(Nat.le_of_ble_eq_true rfl), (Nat.le_of_ble_eq_true rfl)⟩ hl.1 rfl rfl (Nat.le_of_ble_eq_true rfl) hw hS dX8_readArguments_75 (fun S_2 H locs h hw hS => ?_)
  refine lv_iload_n C.1.1 C.1.2.1 dX8_readArguments_78 rfl (lv_at hl 1 rfl) ?_
  exact y_iret C hw hS xt3 h dX8_readArguments_79
set_option maxHeartbeats 4000000 in
set_option maxRecDepth 10000 in
theorem uX8_readArguments_9_b {p : Program} {l : Launch} {e : Env} {s : State} {m : MethodId} {args : Array Value} {below : List Frame} {meth : Method} {c : Code} {G : GG} {SB : St} (C : Cx p s m args meth c G RX8 cX8_readArguments 5 (some .int)) {S : St} {H : Heap} {locs : List Loc} {ls : Array Slot}  {P9 : Int → Int → St → Prop} {k : Int → St → Prop} (hw : Wd G ((injR SB) S) H) (hS : va_S (AG G) s.heap H locs) {xv1 : Int32} {x1 : Int} (xt1 : xv1.toInt = x1) {xv2 : Int32} {x2 : Int} (xt2 : xv2.toInt = x2) {xv3 : Int32} {x3 : Int} (xt3 : xv3.toInt = x3) {xv4 : Int32} {x4 : Int} (xt4 : xv4.toInt = x4) (hl : lv_has ls 5 [(0, .ref (G.2.2 1042)), (1, .int xv1), (2, .int xv2), (3, .int xv3), (4, .int xv4)])  (hP9 : ∀ {H : Heap} {locs : List Loc} {ls : Array Slot} {Sy : St} {yv3 : Int32} {y3 : Int} {yv4 : Int32} {y4 : Int}, yv3.toInt = y3 → yv4.toInt = y4 → Wd G ((injR SB) Sy) H → va_S (AG G) s.heap H locs → lv_has ls 5 [(0, .ref (G.2.2 1042)), (1, .int xv1), (2, .int xv2), (3, .int yv3), (4, .int yv4)] → P9 y3 y4 Sy → W p l e (rmF 3 70) s m args below meth c H locs 0 0 (MQ below (QcI G (injR SB) k) args s 0 0 (AG G)) (F0 m 9 ls [])) (h : wX8_readArguments_9_b S x1 x2 x3 x4 P9 k) : W p l e (rmF 3 70) s m args below meth c H locs 0 0 (MQ below (QcI G (injR SB) k) args s 0 0 (AG G)) (F0 m 9 ls []) := by
  refine lv_iload C.1.1 C.1.2.1 dX8_readArguments_9 (lv_at hl 4 rfl) ?_
  refine y_if_eq C xt4 dX8_readArguments_11 (tgt := 72) (by decide) (fun c1 => ?_) (fun c1 => ?_)
  · have h := h.1 c1
    exact uX8_readArguments_72 C hw hS xt3 (lv_sub hl [0, 3] rfl)  h
  · have h := h.2 c1
    refine lv_aload_n C.1.1 C.1.2.1 dX8_readArguments_14 rfl (lv_at hl 0 rfl) ?_
    refine y_cVIp C (As := []) (rest := []) ml_X8_261 (kX8_goesOn l G SB S  h) (ocr SB) (T := TX8) (N := 60) rfl (by decide) ⟨(Nat.le_of_ble_eq_true rfl), (Nat.le_of_ble_eq_true rfl)⟩ hl.1 rfl rfl (Nat.le_of_ble_eq_true rfl) hw hS dX8_readArguments_15 (fun v2 x_2 H locs t2 h hw hS => ?_)
    refine y_if_eq C t2 dX8_readArguments_18 (tgt := 72) (by decide) (fun c3 => ?_) (fun c3 => ?_)
    · have h := h.1 c3
      exact uX8_readArguments_72 C hw hS xt3 (lv_sub hl [0, 3] rfl)  h
    · have h := h.2 c3
      refine lv_aload_n C.1.1 C.1.2.1 dX8_readArguments_21 rfl (lv_at hl 0 rfl) ?_
      refine y_getA C fl_X8_91 hw (ocr SB) rfl (o := 18) rfl dX8_readArguments_22 ?_
      refine y_iconst C dX8_readArguments_25 ⟨by decide, by decide⟩ (fun v5 t5 => ?_)
      refine lv_iload_n C.1.1 C.1.2.1 dX8_readArguments_26 rfl (lv_at hl 2 rfl) ?_
      refine y_imul C t5 xt2 dX8_readArguments_27 (fun v6 t6 => ?_)
      refine lv_iload_n C.1.1 C.1.2.1 dX8_readArguments_28 rfl (lv_at hl 3 rfl) ?_
      refine y_iadd C t6 xt3 dX8_readArguments_29 (fun v7 t7 => ?_)
      refine lv_aload_n C.1.1 C.1.2.1 dX8_readArguments_30 rfl (lv_at hl 0 rfl) ?_
      refine lv_iload_n C.1.1 C.1.2.1 dX8_readArguments_31 rfl (lv_at hl 1 rfl) ?_
      refine y_cVI C (As := [.int xv1]) (rest := [.int v7, .ref (G.2.2 (1060))]) ml_X8_265 (kX8_takeNamed l G SB S xt1 h) (ocr SB) (T := TX8) (N := 60) rfl (by decide) ⟨(Nat.le_of_ble_eq_true rfl), (Nat.le_of_ble_eq_true rfl)⟩ hl.1 rfl rfl (Nat.le_of_ble_eq_true rfl) hw hS dX8_readArguments_32 (fun v8 x_8 S_8 H locs t8 h hw hS => ?_)
      obtain ⟨b9, h⟩ := h
      obtain ⟨S_9, e9⟩ : ∃ z : St, z = up S_8 18 (w32 (w32 (2 * x2) + x3)) x_8 := ⟨_, rfl⟩
      have h := h S_9 e9
      refine y_iast C hw hS (acr_27 SB) t7 t8 b9 dX8_readArguments_35 (fun H locs hw hS => ?_)
      have hw : Wd G ((injR SB) S_9) H := by rw [e9]; exact hw
      obtain ⟨x_10, e10⟩ : ∃ z : Int, z = w32 (x3 + 1) := ⟨_, rfl⟩
      have h := h x_10 e10
      obtain ⟨v10, t10, g10⟩ : ∃ z : Int32, z.toInt = x_10 ∧ xv3 + Int32.ofInt 1 = z := ⟨_, (ti_inc xt3 ⟨by decide, by decide⟩).trans e10.symm, rfl⟩
      refine lv_iinc (v := v10) (lv' := [(3, .int v10), (0, .ref (G.2.2 1042)), (1, .int xv1), (2, .int xv2), (4, .int xv4)]) C.1.1 C.1.2.1 dX8_readArguments_36 hl (k := 3) rfl g10 (by decide) rfl (fun ls hl => ?_)
      refine lv_aload_n C.1.1 C.1.2.1 dX8_readArguments_39 rfl (lv_at hl 1 rfl) ?_
      refine y_bipush C dX8_readArguments_40 ⟨by decide, by decide⟩ (fun v11 t11 => ?_)
      refine y_cVIp C (As := [.int v11]) (rest := []) ml_X8_199 (kX8_is l G SB S_9 t11 h) (ocr SB) (T := TX8) (N := 60) rfl (by decide) ⟨(Nat.le_of_ble_eq_true rfl), (Nat.le_of_ble_eq_true rfl)⟩ hl.1 rfl rfl (Nat.le_of_ble_eq_true rfl) hw hS dX8_readArguments_42 (fun v12 x_12 H locs t12 h hw hS => ?_)
      refine y_if_eq C t12 dX8_readArguments_45 (tgt := 57) (by decide) (fun c13 => ?_) (fun c13 => ?_)
      · have h := h.1 c13
        exact uX8_readArguments_57 C hw hS xt1 xt2 t10 (lv_sub hl [1, 2, 3, 0] rfl) hP9 h
      · have h := h.2 c13
        refine lv_iload_n C.1.1 C.1.2.1 dX8_readArguments_48 rfl (lv_at hl 0 rfl) ?_
        refine y_iconst C dX8_readArguments_49 ⟨by decide, by decide⟩ (fun v14 t14 => ?_)
        refine y_icmp_ge C t10 t14 dX8_readArguments_50 (tgt := 57) (by decide) (fun c15 => ?_) (fun c15 => ?_)
        · have h := h.1 c15
          exact uX8_readArguments_57 C hw hS xt1 xt2 t10 (lv_sub hl [1, 2, 3, 0] rfl) hP9 h
        · have h := h.2 c15
          refine y_iconst C dX8_readArguments_53 ⟨by decide, by decide⟩ (fun v16 t16 => ?_)
          refine lv_goto (tgt := 58) C.1.1 C.1.2.1 dX8_readArguments_54 (by decide) ?_
          exact uX8_readArguments_58 C hw hS xt1 xt2 t10 t16 (lv_sub hl [1, 2, 3, 0] rfl) hP9 h
set_option maxHeartbeats 4000000 in
set_option maxRecDepth 10000 in
theorem uX8_readArguments_9 {p : Program} {l : Launch} {e : Env} {s : State} {m : MethodId} {args : Array Value} {below : List Frame} {meth : Method} {c : Code} {G : GG} {SB : St} (C : Cx p s m args meth c G RX8 cX8_readArguments 5 (some .int)) {S : St} {H : Heap} {locs : List Loc} {ls : Array Slot}  {k : Int → St → Prop} (hw : Wd G ((injR SB) S) H) (hS : va_S (AG G) s.heap H locs) {xv1 : Int32} {x1 : Int} (xt1 : xv1.toInt = x1) {xv2 : Int32} {x2 : Int} (xt2 : xv2.toInt = x2) {xv3 : Int32} {x3 : Int} (xt3 : xv3.toInt = x3) {xv4 : Int32} {x4 : Int} (xt4 : xv4.toInt = x4) (hl : lv_has ls 5 [(0, .ref (G.2.2 1042)), (1, .int xv1), (2, .int xv2), (3, .int xv3), (4, .int xv4)])  (h : wX8_readArguments_9 S x1 x2 x3 x4 k) : W p l e (rmF 3 70) s m args below meth c H locs 0 0 (MQ below (QcI G (injR SB) k) args s 0 0 (AG G)) (F0 m 9 ls []) := by
  have key : ∀ (n : Nat) {H : Heap} {locs : List Loc} {ls : Array Slot} {S : St} {xv3 : Int32} {x3 : Int} {xv4 : Int32} {x4 : Int}, xv3.toInt = x3 → xv4.toInt = x4 → Wd G ((injR SB) S) H → va_S (AG G) s.heap H locs → lv_has ls 5 [(0, .ref (G.2.2 1042)), (1, .int xv1), (2, .int xv2), (3, .int xv3), (4, .int xv4)] → itP (fun (P : Int × Int × St → Prop) (a : Int × Int × St) => wX8_readArguments_9_b a.2.2 x1 x2 a.1 a.2.1 (fun b0 b1 b2 => P (b0, b1, b2)) k) n (x3, x4, S) → W p l e (rmF 3 70) s m args below meth c H locs 0 0 (MQ below (QcI G (injR SB) k) args s 0 0 (AG G)) (F0 m 9 ls []) := by
    intro n
    induction n with
    | zero => intro H locs ls S xv3 x3 xv4 x4 xt3 xt4 hw hS hl h; exact h.elim
    | succ n ih =>
      intro H locs ls S xv3 x3 xv4 x4 xt3 xt4 hw hS hl h
      exact uX8_readArguments_9_b C hw hS xt1 xt2 xt3 xt4 hl  (P9 := fun b0 b1 b2 => itP _ n (b0, b1, b2)) (fun q0 q1 hw hS hl h => ih q0 q1 hw hS hl h) h
  obtain ⟨n, hn⟩ := h
  exact key n xt3 xt4 hw hS hl hn
set_option maxHeartbeats 4000000 in
set_option maxRecDepth 10000 in
theorem uX8_readArguments_0 {p : Program} {l : Launch} {e : Env} {s : State} {m : MethodId} {args : Array Value} {below : List Frame} {meth : Method} {c : Code} {G : GG} {SB : St} (C : Cx p s m args meth c G RX8 cX8_readArguments 5 (some .int)) {S : St} {H : Heap} {locs : List Loc} {ls : Array Slot}  {k : Int → St → Prop} (hw : Wd G ((injR SB) S) H) (hS : va_S (AG G) s.heap H locs) {xv1 : Int32} {x1 : Int} (xt1 : xv1.toInt = x1) {xv2 : Int32} {x2 : Int} (xt2 : xv2.toInt = x2) (hl : lv_has ls 5 [(0, .ref (G.2.2 1042)), (1, .int xv1), (2, .int xv2)])  (h : wX8_readArguments_0 S x1 x2 k) : W p l e (rmF 3 70) s m args below meth c H locs 0 0 (MQ below (QcI G (injR SB) k) args s 0 0 (AG G)) (F0 m 0 ls []) := by
  refine y_iconst C dX8_readArguments_0 ⟨by decide, by decide⟩ (fun v1 t1 => ?_)
  refine lv_istore_n (lv' := [(3, .int v1), (0, .ref (G.2.2 1042)), (1, .int xv1), (2, .int xv2)]) C.1.1 C.1.2.1 dX8_readArguments_1 rfl hl (by decide) rfl (fun ls hl => ?_)
  refine y_iconst C dX8_readArguments_2 ⟨by decide, by decide⟩ (fun v2 t2 => ?_)
  refine lv_istore (lv' := [(4, .int v2), (3, .int v1), (0, .ref (G.2.2 1042)), (1, .int xv1), (2, .int xv2)]) C.1.1 C.1.2.1 dX8_readArguments_3 hl (by decide) rfl (fun ls hl => ?_)
  refine lv_aload_n C.1.1 C.1.2.1 dX8_readArguments_5 rfl (lv_at hl 2 rfl) ?_
  refine y_cVV C (As := []) (rest := []) ml_X8_202 (kX8_next l G SB S  h) (ocr SB) (T := TX8) (N := 60) rfl (by decide) ⟨(Nat.le_of_ble_eq_true rfl), (Nat.le_of_ble_eq_true rfl)⟩ hl.1 rfl rfl (Nat.le_of_ble_eq_true rfl) hw hS dX8_readArguments_6 (fun S_3 H locs h hw hS => ?_)
  exact uX8_readArguments_9 C hw hS xt1 xt2 t1 t2 (lv_sub hl [2, 3, 4, 1, 0] rfl)  h
theorem kX8_readArguments (l : Launch) (G : GG) (SB S : St) {xv1 : Int32} {x1 : Int} (xt1 : xv1.toInt = x1) {xv2 : Int32} {x2 : Int} (xt2 : xv2.toInt = x2) {k : Int → St → Prop} (h : wX8_readArguments S x1 x2 k) : CnI l yX8_readArguments cX8_readArguments 5 (some .int) 3 70 G (injR SB) [.ref (G.2.2 1042), .int xv1, .int xv2] S k :=
  cn_body (by decide +kernel) (Nat.le_of_ble_eq_true rfl) (fun p e s m args below meth c ls C hw hl => uX8_readArguments_0 C hw va_S.rf xt1 xt2 (lv_sub hl [0, 1, 2] rfl) h)
set_option maxHeartbeats 4000000 in
set_option maxRecDepth 10000 in
theorem uX8_readRefs_58 {p : Program} {l : Launch} {e : Env} {s : State} {m : MethodId} {args : Array Value} {below : List Frame} {meth : Method} {c : Code} {G : GG} {SB : St} (C : Cx p s m args meth c G RX8 cX8_readRefs 8 none) {S : St} {H : Heap} {locs : List Loc} {ls : Array Slot}  {k : St → Prop} (hw : Wd G ((injR SB) S) H) (hS : va_S (AG G) s.heap H locs)  (hl : lv_has ls 8 [(0, .ref (G.2.2 1042))])  (h : wX8_readRefs_58 S k) : W p l e (rmF 4 94) s m args below meth c H locs 0 0 (MQ below (QcV G (injR SB) k) args s 0 0 (AG G)) (F0 m 58 ls []) := by
  refine lv_aload_n C.1.1 C.1.2.1 dX8_readRefs_58 rfl (lv_at hl 0 rfl) ?_
  refine y_iconst C dX8_readRefs_59 ⟨by decide, by decide⟩ (fun v1 t1 => ?_)
  refine lv_aload_n C.1.1 C.1.2.1 dX8_readRefs_60 rfl (lv_at hl 0 rfl) ?_
  refine y_getI C fl_X8_172 hw (ocr SB) rfl dX8_readRefs_61 (fun v2 t2 => ?_)
  refine y_cVV C (As := [.int v1, .int v2]) (rest := []) ml_X8_195 (kX8_fails l G SB S t1 t2 h) (ocr SB) (T := TX8) (N := 60) rfl (by decide) ⟨(Nat.le_of_ble_eq_true rfl), (Nat.le_of_ble_eq_true rfl)⟩ hl.1 rfl rfl (Nat.le_of_ble_eq_true rfl) hw hS dX8_readRefs_64 (fun S_3 H locs h hw hS => ?_)
  exact y_vret C hw hS h dX8_readRefs_67
set_option maxHeartbeats 4000000 in
set_option maxRecDepth 10000 in
theorem uX8_readRefs_106 {p : Program} {l : Launch} {e : Env} {s : State} {m : MethodId} {args : Array Value} {below : List Frame} {meth : Method} {c : Code} {G : GG} {SB : St} (C : Cx p s m args meth c G RX8 cX8_readRefs 8 none) {S : St} {H : Heap} {locs : List Loc} {ls : Array Slot} {P12 : Int → St → Prop} {P74 : Int → Int → Prop} {k : St → Prop} (hw : Wd G ((injR SB) S) H) (hS : va_S (AG G) s.heap H locs) {xv1 : Int32} {x1 : Int} (xt1 : xv1.toInt = x1) {xv2 : Int32} {x2 : Int} (xt2 : xv2.toInt = x2) {xv4 : Int32} {x4 : Int} (xt4 : xv4.toInt = x4) {xv6 : Int32} {x6 : Int} (xt6 : xv6.toInt = x6) (hl : lv_has ls 8 [(0, .ref (G.2.2 1042)), (1, .int xv1), (2, .int xv2), (4, .int xv4), (6, .int xv6)]) (hP12 : ∀ {H : Heap} {locs : List Loc} {ls : Array Slot} {Sy : St} {yv3 : Int32} {y3 : Int}, yv3.toInt = y3 → Wd G ((injR SB) Sy) H → va_S (AG G) s.heap H locs → lv_has ls 8 [(0, .ref (G.2.2 1042)), (1, .int xv1), (2, .int xv2), (3, .int yv3)] → P12 y3 Sy → W p l e (rmF 4 94) s m args below meth c H locs 0 0 (MQ below (QcV G (injR SB) k) args s 0 0 (AG G)) (F0 m 12 ls [])) (hP74 : ∀ {H : Heap} {locs : List Loc} {ls : Array Slot} {yv5 : Int32} {y5 : Int} {yv6 : Int32} {y6 : Int}, yv5.toInt = y5 → yv6.toInt = y6 → Wd G ((injR SB) S) H → va_S (AG G) s.heap H locs → lv_has ls 8 [(0, .ref (G.2.2 1042)), (1, .int xv1), (2, .int xv2), (4, .int xv4), (5, .int yv5), (6, .int yv6)] → P74 y5 y6 → W p l e (rmF 4 94) s m args below meth c H locs 0 0 (MQ below (QcV G (injR SB) k) args s 0 0 (AG G)) (F0 m 74 ls [])) (h : wX8_readRefs_106 S x1 x2 x4 x6 P12 P74 k) : W p l e (rmF 4 94) s m args below meth c H locs 0 0 (MQ below (QcV G (injR SB) k) args s 0 0 (AG G)) (F0 m 106 ls []) := by
  refine y_iconst C dX8_readRefs_106 ⟨by decide, by decide⟩ (fun v1 t1 => ?_)
  refine lv_goto (tgt := 111) C.1.1 C.1.2.1 dX8_readRefs_107 (by decide) ?_
  refine lv_istore (lv' := [(5, .int v1), (0, .ref (G.2.2 1042)), (1, .int xv1), (2, .int xv2), (4, .int xv4), (6, .int xv6)]) C.1.1 C.1.2.1 dX8_readRefs_111 hl (by decide) rfl (fun ls hl => ?_)
  obtain ⟨x_2, e2⟩ : ∃ z : Int, z = w32 (x6 + 1) := ⟨_, rfl⟩
  have h := h x_2 e2
  obtain ⟨v2, t2, g2⟩ : ∃ z : Int32, z.toInt = x_2 ∧ xv6 + Int32.ofInt 1 = z := ⟨_, (ti_inc xt6 ⟨by decide, by decide⟩).trans e2.symm, rfl⟩
  refine lv_iinc (v := v2) (lv' := [(6, .int v2), (5, .int v1), (0, .ref (G.2.2 1042)), (1, .int xv1), (2, .int xv2), (4, .int xv4)]) C.1.1 C.1.2.1 dX8_readRefs_113 hl (k := 5) rfl g2 (by decide) rfl (fun ls hl => ?_)
  refine lv_goto (tgt := 74) C.1.1 C.1.2.1 dX8_readRefs_116 (by decide) ?_
  exact hP74 t1 t2 hw hS (lv_sub hl [2, 3, 4, 5, 1, 0] rfl) h
set_option maxHeartbeats 4000000 in
set_option maxRecDepth 10000 in
theorem uX8_readRefs_158 {p : Program} {l : Launch} {e : Env} {s : State} {m : MethodId} {args : Array Value} {below : List Frame} {meth : Method} {c : Code} {G : GG} {SB : St} (C : Cx p s m args meth c G RX8 cX8_readRefs 8 none) {S : St} {H : Heap} {locs : List Loc} {ls : Array Slot}  {k : St → Prop} (hw : Wd G ((injR SB) S) H) (hS : va_S (AG G) s.heap H locs)  (hl : lv_has ls 8 [(0, .ref (G.2.2 1042))])  (h : wX8_readRefs_158 S k) : W p l e (rmF 4 94) s m args below meth c H locs 0 0 (MQ below (QcV G (injR SB) k) args s 0 0 (AG G)) (F0 m 158 ls []) := by
  refine lv_aload_n C.1.1 C.1.2.1 dX8_readRefs_158 rfl (lv_at hl 0 rfl) ?_
  refine y_iconst C dX8_readRefs_159 ⟨by decide, by decide⟩ (fun v1 t1 => ?_)
  refine lv_aload_n C.1.1 C.1.2.1 dX8_readRefs_160 rfl (lv_at hl 0 rfl) ?_
  refine y_getI C fl_X8_172 hw (ocr SB) rfl dX8_readRefs_161 (fun v2 t2 => ?_)
  refine y_cVV C (As := [.int v1, .int v2]) (rest := []) ml_X8_195 (kX8_fails l G SB S t1 t2 h) (ocr SB) (T := TX8) (N := 60) rfl (by decide) ⟨(Nat.le_of_ble_eq_true rfl), (Nat.le_of_ble_eq_true rfl)⟩ hl.1 rfl rfl (Nat.le_of_ble_eq_true rfl) hw hS dX8_readRefs_164 (fun S_3 H locs h hw hS => ?_)
  exact y_vret C hw hS h dX8_readRefs_167
set_option maxHeartbeats 4000000 in
set_option maxRecDepth 10000 in
theorem uX8_readRefs_328 {p : Program} {l : Launch} {e : Env} {s : State} {m : MethodId} {args : Array Value} {below : List Frame} {meth : Method} {c : Code} {G : GG} {SB : St} (C : Cx p s m args meth c G RX8 cX8_readRefs 8 none) {S : St} {H : Heap} {locs : List Loc} {ls : Array Slot}  {k : St → Prop} (hw : Wd G ((injR SB) S) H) (hS : va_S (AG G) s.heap H locs)  (hl : lv_has ls 8 [(0, .ref (G.2.2 1042))])  (h : wX8_readRefs_328 S k) : W p l e (rmF 4 94) s m args below meth c H locs 0 0 (MQ below (QcV G (injR SB) k) args s 0 0 (AG G)) (F0 m 328 ls []) := by
  refine lv_aload_n C.1.1 C.1.2.1 dX8_readRefs_328 rfl (lv_at hl 0 rfl) ?_
  refine y_cVV C (As := []) (rest := []) ml_X8_205 (kX8_odd l G SB S  h) (ocr SB) (T := TX8) (N := 60) rfl (by decide) ⟨(Nat.le_of_ble_eq_true rfl), (Nat.le_of_ble_eq_true rfl)⟩ hl.1 rfl rfl (Nat.le_of_ble_eq_true rfl) hw hS dX8_readRefs_329 (fun S_1 H locs h hw hS => ?_)
  exact y_vret C hw hS h dX8_readRefs_332
set_option maxHeartbeats 4000000 in
set_option maxRecDepth 10000 in
theorem uX8_readRefs_319 {p : Program} {l : Launch} {e : Env} {s : State} {m : MethodId} {args : Array Value} {below : List Frame} {meth : Method} {c : Code} {G : GG} {SB : St} (C : Cx p s m args meth c G RX8 cX8_readRefs 8 none) {S : St} {H : Heap} {locs : List Loc} {ls : Array Slot}  {k : St → Prop} (hw : Wd G ((injR SB) S) H) (hS : va_S (AG G) s.heap H locs)  (hl : lv_has ls 8 [(0, .ref (G.2.2 1042))])  (h : wX8_readRefs_319 S k) : W p l e (rmF 4 94) s m args below meth c H locs 0 0 (MQ below (QcV G (injR SB) k) args s 0 0 (AG G)) (F0 m 319 ls []) := by
  refine lv_aload_n C.1.1 C.1.2.1 dX8_readRefs_319 rfl (lv_at hl 0 rfl) ?_
  refine y_iconst C dX8_readRefs_320 ⟨by decide, by decide⟩ (fun v1 t1 => ?_)
  refine lv_aload_n C.1.1 C.1.2.1 dX8_readRefs_321 rfl (lv_at hl 0 rfl) ?_
  refine y_getI C fl_X8_172 hw (ocr SB) rfl dX8_readRefs_322 (fun v2 t2 => ?_)
  refine y_cVV C (As := [.int v1, .int v2]) (rest := []) ml_X8_195 (kX8_fails l G SB S t1 t2 h) (ocr SB) (T := TX8) (N := 60) rfl (by decide) ⟨(Nat.le_of_ble_eq_true rfl), (Nat.le_of_ble_eq_true rfl)⟩ hl.1 rfl rfl (Nat.le_of_ble_eq_true rfl) hw hS dX8_readRefs_325 (fun S_3 H locs h hw hS => ?_)
  exact uX8_readRefs_328 C hw hS  (lv_sub hl [0] rfl)  h
set_option maxHeartbeats 4000000 in
set_option maxRecDepth 10000 in
theorem uX8_readRefs_333 {p : Program} {l : Launch} {e : Env} {s : State} {m : MethodId} {args : Array Value} {below : List Frame} {meth : Method} {c : Code} {G : GG} {SB : St} (C : Cx p s m args meth c G RX8 cX8_readRefs 8 none) {S : St} {H : Heap} {locs : List Loc} {ls : Array Slot} {P12 : Int → St → Prop} {k : St → Prop} (hw : Wd G ((injR SB) S) H) (hS : va_S (AG G) s.heap H locs) {xv1 : Int32} {x1 : Int} (xt1 : xv1.toInt = x1) {xv2 : Int32} {x2 : Int} (xt2 : xv2.toInt = x2) (hl : lv_has ls 8 [(0, .ref (G.2.2 1042)), (1, .int xv1), (2, .int xv2)]) (hP12 : ∀ {H : Heap} {locs : List Loc} {ls : Array Slot} {Sy : St} {yv3 : Int32} {y3 : Int}, yv3.toInt = y3 → Wd G ((injR SB) Sy) H → va_S (AG G) s.heap H locs → lv_has ls 8 [(0, .ref (G.2.2 1042)), (1, .int xv1), (2, .int xv2), (3, .int yv3)] → P12 y3 Sy → W p l e (rmF 4 94) s m args below meth c H locs 0 0 (MQ below (QcV G (injR SB) k) args s 0 0 (AG G)) (F0 m 12 ls [])) (h : wX8_readRefs_333 S x1 x2 P12 k) : W p l e (rmF 4 94) s m args below meth c H locs 0 0 (MQ below (QcV G (injR SB) k) args s 0 0 (AG G)) (F0 m 333 ls []) := by
  refine lv_aload_n C.1.1 C.1.2.1 dX8_readRefs_333 rfl (lv_at hl 0 rfl) ?_
  refine y_bipush C dX8_readRefs_334 ⟨by decide, by decide⟩ (fun v1 t1 => ?_)
  refine y_cVIp C (As := [.int v1]) (rest := []) ml_X8_199 (kX8_is l G SB S t1 h) (ocr SB) (T := TX8) (N := 60) rfl (by decide) ⟨(Nat.le_of_ble_eq_true rfl), (Nat.le_of_ble_eq_true rfl)⟩ hl.1 rfl rfl (Nat.le_of_ble_eq_true rfl) hw hS dX8_readRefs_336 (fun v2 x_2 H locs t2 h hw hS => ?_)
  refine lv_istore_n (lv' := [(3, .int v2), (0, .ref (G.2.2 1042)), (1, .int xv1), (2, .int xv2)]) C.1.1 C.1.2.1 dX8_readRefs_339 rfl hl (by decide) rfl (fun ls hl => ?_)
  refine lv_iload_n C.1.1 C.1.2.1 dX8_readRefs_340 rfl (lv_at hl 0 rfl) ?_
  refine y_if_eq C t2 dX8_readRefs_341 (tgt := 348) (by decide) (fun c3 => ?_) (fun c3 => ?_)
  · have h := h.1 c3
    refine lv_goto (tgt := 12) C.1.1 C.1.2.1 dX8_readRefs_348 (by decide) ?_
    exact hP12 t2 hw hS (lv_sub hl [1, 2, 3, 0] rfl) h
  · have h := h.2 c3
    refine lv_aload_n C.1.1 C.1.2.1 dX8_readRefs_344 rfl (lv_at hl 1 rfl) ?_
    refine y_cVV C (As := []) (rest := []) ml_X8_202 (kX8_next l G SB S  h) (ocr SB) (T := TX8) (N := 60) rfl (by decide) ⟨(Nat.le_of_ble_eq_true rfl), (Nat.le_of_ble_eq_true rfl)⟩ hl.1 rfl rfl (Nat.le_of_ble_eq_true rfl) hw hS dX8_readRefs_345 (fun S_4 H locs h hw hS => ?_)
    refine lv_goto (tgt := 12) C.1.1 C.1.2.1 dX8_readRefs_348 (by decide) ?_
    exact hP12 t2 hw hS (lv_sub hl [1, 2, 3, 0] rfl) h
set_option maxHeartbeats 4000000 in
set_option maxRecDepth 10000 in
theorem uX8_readRefs_276 {p : Program} {l : Launch} {e : Env} {s : State} {m : MethodId} {args : Array Value} {below : List Frame} {meth : Method} {c : Code} {G : GG} {SB : St} (C : Cx p s m args meth c G RX8 cX8_readRefs 8 none) {S : St} {H : Heap} {locs : List Loc} {ls : Array Slot} {P12 : Int → St → Prop} {k : St → Prop} (hw : Wd G ((injR SB) S) H) (hS : va_S (AG G) s.heap H locs) {xv1 : Int32} {x1 : Int} (xt1 : xv1.toInt = x1) {xv2 : Int32} {x2 : Int} (xt2 : xv2.toInt = x2) {xv4 : Int32} {x4 : Int} (xt4 : xv4.toInt = x4) {sv0 : Int32} {s0 : Int} (st0 : sv0.toInt = s0) (hl : lv_has ls 8 [(0, .ref (G.2.2 1042)), (1, .int xv1), (2, .int xv2), (4, .int xv4)]) (hP12 : ∀ {H : Heap} {locs : List Loc} {ls : Array Slot} {Sy : St} {yv3 : Int32} {y3 : Int}, yv3.toInt = y3 → Wd G ((injR SB) Sy) H → va_S (AG G) s.heap H locs → lv_has ls 8 [(0, .ref (G.2.2 1042)), (1, .int xv1), (2, .int xv2), (3, .int yv3)] → P12 y3 Sy → W p l e (rmF 4 94) s m args below meth c H locs 0 0 (MQ below (QcV G (injR SB) k) args s 0 0 (AG G)) (F0 m 12 ls [])) (h : wX8_readRefs_276 S x1 x2 x4 s0 P12 k) : W p l e (rmF 4 94) s m args below meth c H locs 0 0 (MQ below (QcV G (injR SB) k) args s 0 0 (AG G)) (F0 m 276 ls [.int sv0]) := by
  refine lv_istore (lv' := [(7, .int sv0), (0, .ref (G.2.2 1042)), (1, .int xv1), (2, .int xv2), (4, .int xv4)]) C.1.1 C.1.2.1 dX8_readRefs_276 hl (by decide) rfl (fun ls hl => ?_)
  refine lv_aload_n C.1.1 C.1.2.1 dX8_readRefs_278 rfl (lv_at hl 1 rfl) ?_
  refine y_cVIp C (As := []) (rest := []) ml_X8_261 (kX8_goesOn l G SB S  h) (ocr SB) (T := TX8) (N := 60) rfl (by decide) ⟨(Nat.le_of_ble_eq_true rfl), (Nat.le_of_ble_eq_true rfl)⟩ hl.1 rfl rfl (Nat.le_of_ble_eq_true rfl) hw hS dX8_readRefs_279 (fun v1 x_1 H locs t1 h hw hS => ?_)
  refine y_if_eq C t1 dX8_readRefs_282 (tgt := 333) (by decide) (fun c2 => ?_) (fun c2 => ?_)
  · have h := h.1 c2
    exact uX8_readRefs_333 C hw hS xt1 xt2 (lv_sub hl [1, 2, 3] rfl) hP12 h
  · have h := h.2 c2
    refine lv_iload C.1.1 C.1.2.1 dX8_readRefs_285 (lv_at hl 0 rfl) ?_
    refine lv_aload_n C.1.1 C.1.2.1 dX8_readRefs_287 rfl (lv_at hl 1 rfl) ?_
    refine y_getA C fl_X8_76 hw (ocr SB) rfl (o := 13) rfl dX8_readRefs_288 ?_
    refine lv_aload_n C.1.1 C.1.2.1 dX8_readRefs_291 rfl (lv_at hl 1 rfl) ?_
    refine lv_iload C.1.1 C.1.2.1 dX8_readRefs_292 (lv_at hl 4 rfl) ?_
    refine y_cVIp C (As := [.int xv4]) (rest := [.ref (G.2.2 (1055)), .int sv0]) ml_X8_214 (kX8_t l G SB S xt4 h) (ocr SB) (T := TX8) (N := 60) rfl (by decide) ⟨(Nat.le_of_ble_eq_true rfl), (Nat.le_of_ble_eq_true rfl)⟩ hl.1 rfl rfl (Nat.le_of_ble_eq_true rfl) hw hS dX8_readRefs_294 (fun v4 x_4 H locs t4 h hw hS => ?_)
    obtain ⟨b5, h⟩ := h
    refine y_iald C hw (acr_22 SB) t4 b5 dX8_readRefs_297 (fun v5 t5 => ?_)
    refine y_icmp_eq C st0 t5 dX8_readRefs_298 (tgt := 333) (by decide) (fun c6 => ?_) (fun c6 => ?_)
    · have h := h.1 c6
      exact uX8_readRefs_333 C hw hS xt1 xt2 (lv_sub hl [1, 2, 3] rfl) hP12 h
    · have h := h.2 c6
      refine lv_aload_n C.1.1 C.1.2.1 dX8_readRefs_301 rfl (lv_at hl 1 rfl) ?_
      refine y_getI C fl_X8_175 hw (ocr SB) rfl dX8_readRefs_302 (fun v7 t7 => ?_)
      refine y_bipush C dX8_readRefs_305 ⟨by decide, by decide⟩ (fun v8 t8 => ?_)
      refine y_icmp_eq C t7 t8 dX8_readRefs_307 (tgt := 319) (by decide) (fun c9 => ?_) (fun c9 => ?_)
      · have h := h.1 c9
        exact uX8_readRefs_319 C hw hS  (lv_sub hl [1] rfl)  h
      · have h := h.2 c9
        refine lv_aload_n C.1.1 C.1.2.1 dX8_readRefs_310 rfl (lv_at hl 1 rfl) ?_
        refine y_getI C fl_X8_175 hw (ocr SB) rfl dX8_readRefs_311 (fun v10 t10 => ?_)
        refine y_bipush C dX8_readRefs_314 ⟨by decide, by decide⟩ (fun v11 t11 => ?_)
        refine y_icmp_ne C t10 t11 dX8_readRefs_316 (tgt := 328) (by decide) (fun c12 => ?_) (fun c12 => ?_)
        · have h := h.1 c12
          exact uX8_readRefs_328 C hw hS  (lv_sub hl [1] rfl)  h
        · have h := h.2 c12
          exact uX8_readRefs_319 C hw hS  (lv_sub hl [1] rfl)  h
set_option maxHeartbeats 4000000 in
set_option maxRecDepth 10000 in
theorem uX8_readRefs_251 {p : Program} {l : Launch} {e : Env} {s : State} {m : MethodId} {args : Array Value} {below : List Frame} {meth : Method} {c : Code} {G : GG} {SB : St} (C : Cx p s m args meth c G RX8 cX8_readRefs 8 none) {S : St} {H : Heap} {locs : List Loc} {ls : Array Slot} {P12 : Int → St → Prop} {k : St → Prop} (hw : Wd G ((injR SB) S) H) (hS : va_S (AG G) s.heap H locs) {xv1 : Int32} {x1 : Int} (xt1 : xv1.toInt = x1) {xv2 : Int32} {x2 : Int} (xt2 : xv2.toInt = x2) {xv4 : Int32} {x4 : Int} (xt4 : xv4.toInt = x4) {xv6 : Int32} {x6 : Int} (xt6 : xv6.toInt = x6) {sv1 : Int32} {s1 : Int} (st1 : sv1.toInt = s1) {sv2 : Int32} {s2 : Int} (st2 : sv2.toInt = s2) (hl : lv_has ls 8 [(0, .ref (G.2.2 1042)), (1, .int xv1), (2, .int xv2), (4, .int xv4), (6, .int xv6)]) (hP12 : ∀ {H : Heap} {locs : List Loc} {ls : Array Slot} {Sy : St} {yv3 : Int32} {y3 : Int}, yv3.toInt = y3 → Wd G ((injR SB) Sy) H → va_S (AG G) s.heap H locs → lv_has ls 8 [(0, .ref (G.2.2 1042)), (1, .int xv1), (2, .int xv2), (3, .int yv3)] → P12 y3 Sy → W p l e (rmF 4 94) s m args below meth c H locs 0 0 (MQ below (QcV G (injR SB) k) args s 0 0 (AG G)) (F0 m 12 ls [])) (h : wX8_readRefs_251 S x1 x2 x4 x6 s1 s2 P12 k) : W p l e (rmF 4 94) s m args below meth c H locs 0 0 (MQ below (QcV G (injR SB) k) args s 0 0 (AG G)) (F0 m 251 ls [.int sv2, .int sv1, .ref (G.2.2 (1061))]) := by
  obtain ⟨b1, h⟩ := h
  obtain ⟨S_1, e1⟩ : ∃ z : St, z = up S 19 s1 s2 := ⟨_, rfl⟩
  have h := h S_1 e1
  refine y_iast C hw hS (acr_28 SB) st1 st2 b1 dX8_readRefs_251 (fun H locs hw hS => ?_)
  have hw : Wd G ((injR SB) S_1) H := by rw [e1]; exact hw
  refine lv_aload_n C.1.1 C.1.2.1 dX8_readRefs_252 rfl (lv_at hl 0 rfl) ?_
  refine y_cVV C (As := []) (rest := []) ml_X8_202 (kX8_next l G SB S_1  h) (ocr SB) (T := TX8) (N := 60) rfl (by decide) ⟨(Nat.le_of_ble_eq_true rfl), (Nat.le_of_ble_eq_true rfl)⟩ hl.1 rfl rfl (Nat.le_of_ble_eq_true rfl) hw hS dX8_readRefs_253 (fun S_2 H locs h hw hS => ?_)
  refine lv_aload_n C.1.1 C.1.2.1 dX8_readRefs_256 rfl (lv_at hl 0 rfl) ?_
  refine y_bipush C dX8_readRefs_257 ⟨by decide, by decide⟩ (fun v3 t3 => ?_)
  refine y_cVIp C (As := [.int v3]) (rest := []) ml_X8_199 (kX8_is l G SB S_2 t3 h) (ocr SB) (T := TX8) (N := 60) rfl (by decide) ⟨(Nat.le_of_ble_eq_true rfl), (Nat.le_of_ble_eq_true rfl)⟩ hl.1 rfl rfl (Nat.le_of_ble_eq_true rfl) hw hS dX8_readRefs_259 (fun v4 x_4 H locs t4 h hw hS => ?_)
  refine y_if_eq C t4 dX8_readRefs_262 (tgt := 275) (by decide) (fun c5 => ?_) (fun c5 => ?_)
  · have h := h.1 c5
    refine y_iconst C dX8_readRefs_275 ⟨by decide, by decide⟩ (fun v6 t6 => ?_)
    exact uX8_readRefs_276 C hw hS xt1 xt2 xt4 t6 (lv_sub hl [0, 1, 2, 3] rfl) hP12 h
  · have h := h.2 c5
    refine lv_aload_n C.1.1 C.1.2.1 dX8_readRefs_265 rfl (lv_at hl 0 rfl) ?_
    refine lv_iload_n C.1.1 C.1.2.1 dX8_readRefs_266 rfl (lv_at hl 1 rfl) ?_
    refine lv_iload C.1.1 C.1.2.1 dX8_readRefs_267 (lv_at hl 4 rfl) ?_
    refine y_cVI C (As := [.int xv1, .int xv6]) (rest := []) ml_X8_268 (kX8_readArguments l G SB S_2 xt1 xt6 h) (ocr SB) (T := TX8) (N := 60) rfl (by decide) ⟨(Nat.le_of_ble_eq_true rfl), (Nat.le_of_ble_eq_true rfl)⟩ hl.1 rfl rfl (Nat.le_of_ble_eq_true rfl) hw hS dX8_readRefs_269 (fun v7 x_7 S_7 H locs t7 h hw hS => ?_)
    refine lv_goto (tgt := 276) C.1.1 C.1.2.1 dX8_readRefs_272 (by decide) ?_
    exact uX8_readRefs_276 C hw hS xt1 xt2 xt4 t7 (lv_sub hl [0, 1, 2, 3] rfl) hP12 h
set_option maxHeartbeats 4000000 in
set_option maxRecDepth 10000 in
theorem uX8_readRefs_168 {p : Program} {l : Launch} {e : Env} {s : State} {m : MethodId} {args : Array Value} {below : List Frame} {meth : Method} {c : Code} {G : GG} {SB : St} (C : Cx p s m args meth c G RX8 cX8_readRefs 8 none) {S : St} {H : Heap} {locs : List Loc} {ls : Array Slot} {P12 : Int → St → Prop} {k : St → Prop} (hw : Wd G ((injR SB) S) H) (hS : va_S (AG G) s.heap H locs) {xv1 : Int32} {x1 : Int} (xt1 : xv1.toInt = x1) {xv2 : Int32} {x2 : Int} (xt2 : xv2.toInt = x2) {xv4 : Int32} {x4 : Int} (xt4 : xv4.toInt = x4) (hl : lv_has ls 8 [(0, .ref (G.2.2 1042)), (1, .int xv1), (2, .int xv2), (4, .int xv4)]) (hP12 : ∀ {H : Heap} {locs : List Loc} {ls : Array Slot} {Sy : St} {yv3 : Int32} {y3 : Int}, yv3.toInt = y3 → Wd G ((injR SB) Sy) H → va_S (AG G) s.heap H locs → lv_has ls 8 [(0, .ref (G.2.2 1042)), (1, .int xv1), (2, .int xv2), (3, .int yv3)] → P12 y3 Sy → W p l e (rmF 4 94) s m args below meth c H locs 0 0 (MQ below (QcV G (injR SB) k) args s 0 0 (AG G)) (F0 m 12 ls [])) (h : wX8_readRefs_168 S x1 x2 x4 P12 k) : W p l e (rmF 4 94) s m args below meth c H locs 0 0 (MQ below (QcV G (injR SB) k) args s 0 0 (AG G)) (F0 m 168 ls []) := by
  refine lv_aload_n C.1.1 C.1.2.1 dX8_readRefs_168 rfl (lv_at hl 0 rfl) ?_
  refine y_getA C fl_X8_85 hw (ocr SB) rfl (o := 16) rfl dX8_readRefs_169 ?_
  refine lv_iload_n C.1.1 C.1.2.1 dX8_readRefs_172 rfl (lv_at hl 2 rfl) ?_
  obtain ⟨b2, h⟩ := h
  refine y_iald C hw (acr_25 SB) xt2 b2 dX8_readRefs_173 (fun v2 t2 => ?_)
  refine y_iconst C dX8_readRefs_174 ⟨by decide, by decide⟩ (fun v3 t3 => ?_)
  refine y_icmp_ne C t2 t3 dX8_readRefs_175 (tgt := 189) (by decide) (fun c4 => ?_) (fun c4 => ?_)
  · have h := h.1 c4
    refine y_iconst C dX8_readRefs_189 ⟨by decide, by decide⟩ (fun v5 t5 => ?_)
    refine lv_iload_n C.1.1 C.1.2.1 dX8_readRefs_190 rfl (lv_at hl 2 rfl) ?_
    refine y_imul C t5 xt2 dX8_readRefs_191 (fun v6 t6 => ?_)
    refine lv_aload_n C.1.1 C.1.2.1 dX8_readRefs_192 rfl (lv_at hl 0 rfl) ?_
    refine y_getA C fl_X8_85 hw (ocr SB) rfl (o := 16) rfl dX8_readRefs_193 ?_
    refine lv_iload_n C.1.1 C.1.2.1 dX8_readRefs_196 rfl (lv_at hl 2 rfl) ?_
    obtain ⟨b8, h⟩ := h
    refine y_iald C hw (acr_25 SB) xt2 b8 dX8_readRefs_197 (fun v8 t8 => ?_)
    refine y_iadd C t6 t8 dX8_readRefs_198 (fun v9 t9 => ?_)
    obtain ⟨x_10, e10⟩ : ∃ z : Int, z = w32 (w32 (5 * x2) + S 16 x2) := ⟨_, rfl⟩
    have h := h x_10 e10
    have t10 := t9.trans e10.symm
    refine lv_istore (lv' := [(6, .int v9), (0, .ref (G.2.2 1042)), (1, .int xv1), (2, .int xv2), (4, .int xv4)]) C.1.1 C.1.2.1 dX8_readRefs_199 hl (by decide) rfl (fun ls hl => ?_)
    refine lv_aload_n C.1.1 C.1.2.1 dX8_readRefs_201 rfl (lv_at hl 1 rfl) ?_
    refine y_getA C fl_X8_88 hw (ocr SB) rfl (o := 17) rfl dX8_readRefs_202 ?_
    refine lv_iload C.1.1 C.1.2.1 dX8_readRefs_205 (lv_at hl 0 rfl) ?_
    refine lv_iload C.1.1 C.1.2.1 dX8_readRefs_207 (lv_at hl 4 rfl) ?_
    obtain ⟨b12, h⟩ := h
    obtain ⟨S_12, e12⟩ : ∃ z : St, z = up S 17 x_10 x4 := ⟨_, rfl⟩
    have h := h S_12 e12
    refine y_iast C hw hS (acr_26 SB) t10 xt4 b12 dX8_readRefs_209 (fun H locs hw hS => ?_)
    have hw : Wd G ((injR SB) S_12) H := by rw [e12]; exact hw
    refine lv_aload_n C.1.1 C.1.2.1 dX8_readRefs_210 rfl (lv_at hl 1 rfl) ?_
    refine y_getA C fl_X8_85 hw (ocr SB) rfl (o := 16) rfl dX8_readRefs_211 ?_
    refine lv_iload_n C.1.1 C.1.2.1 dX8_readRefs_214 rfl (lv_at hl 3 rfl) ?_
    refine lv_dup2_11 C.1.1 C.1.2.1 dX8_readRefs_215 rfl rfl ?_
    obtain ⟨b14, h⟩ := h
    refine y_iald C hw (acr_25 SB) xt2 b14 dX8_readRefs_216 (fun v14 t14 => ?_)
    refine y_iconst C dX8_readRefs_217 ⟨by decide, by decide⟩ (fun v15 t15 => ?_)
    refine y_iadd C t14 t15 dX8_readRefs_218 (fun v16 t16 => ?_)
    obtain ⟨b17, h⟩ := h
    obtain ⟨S_17, e17⟩ : ∃ z : St, z = up S_12 16 x2 (w32 (S_12 16 x2 + 1)) := ⟨_, rfl⟩
    have h := h S_17 e17
    refine y_iast C hw hS (acr_25 SB) xt2 t16 b17 dX8_readRefs_219 (fun H locs hw hS => ?_)
    have hw : Wd G ((injR SB) S_17) H := by rw [e17]; exact hw
    refine lv_aload_n C.1.1 C.1.2.1 dX8_readRefs_220 rfl (lv_at hl 1 rfl) ?_
    refine y_getA C fl_X8_94 hw (ocr SB) rfl (o := 19) rfl dX8_readRefs_221 ?_
    refine lv_iload_n C.1.1 C.1.2.1 dX8_readRefs_224 rfl (lv_at hl 3 rfl) ?_
    refine lv_aload_n C.1.1 C.1.2.1 dX8_readRefs_225 rfl (lv_at hl 1 rfl) ?_
    refine y_getA C fl_X8_70 hw (ocr SB) rfl (o := 11) rfl dX8_readRefs_226 ?_
    refine lv_aload_n C.1.1 C.1.2.1 dX8_readRefs_229 rfl (lv_at hl 1 rfl) ?_
    refine lv_iload C.1.1 C.1.2.1 dX8_readRefs_230 (lv_at hl 4 rfl) ?_
    refine y_cVIp C (As := [.int xv4]) (rest := [.ref (G.2.2 (1053)), .int xv2, .ref (G.2.2 (1061))]) ml_X8_214 (kX8_t l G SB S_17 xt4 h) (ocr SB) (T := TX8) (N := 60) rfl (by decide) ⟨(Nat.le_of_ble_eq_true rfl), (Nat.le_of_ble_eq_true rfl)⟩ hl.1 rfl rfl (Nat.le_of_ble_eq_true rfl) hw hS dX8_readRefs_232 (fun v20 x_20 H locs t20 h hw hS => ?_)
    obtain ⟨b21, h⟩ := h
    refine y_iald C hw (acr_20 SB) t20 b21 dX8_readRefs_235 (fun v21 t21 => ?_)
    refine y_iconst C dX8_readRefs_236 ⟨by decide, by decide⟩ (fun v22 t22 => ?_)
    refine y_icmp_ge C t21 t22 dX8_readRefs_237 (tgt := 245) (by decide) (fun c23 => ?_) (fun c23 => ?_)
    · have h := h.1 c23
      refine lv_aload_n C.1.1 C.1.2.1 dX8_readRefs_245 rfl (lv_at hl 1 rfl) ?_
      refine y_getA C fl_X8_94 hw (ocr SB) rfl (o := 19) rfl dX8_readRefs_246 ?_
      refine lv_iload_n C.1.1 C.1.2.1 dX8_readRefs_249 rfl (lv_at hl 3 rfl) ?_
      obtain ⟨b25, h⟩ := h
      refine y_iald C hw (acr_28 SB) xt2 b25 dX8_readRefs_250 (fun v25 t25 => ?_)
      exact uX8_readRefs_251 C hw hS xt1 xt2 xt4 t10 xt2 t25 (lv_sub hl [1, 2, 3, 4, 0] rfl) hP12 h
    · have h := h.2 c23
      refine lv_iload C.1.1 C.1.2.1 dX8_readRefs_240 (lv_at hl 4 rfl) ?_
      refine lv_goto (tgt := 251) C.1.1 C.1.2.1 dX8_readRefs_242 (by decide) ?_
      exact uX8_readRefs_251 C hw hS xt1 xt2 xt4 t10 xt2 xt4 (lv_sub hl [1, 2, 3, 4, 0] rfl) hP12 h
  · have h := h.2 c4
    refine lv_aload_n C.1.1 C.1.2.1 dX8_readRefs_178 rfl (lv_at hl 0 rfl) ?_
    refine y_bipush C dX8_readRefs_179 ⟨by decide, by decide⟩ (fun v26 t26 => ?_)
    refine lv_aload_n C.1.1 C.1.2.1 dX8_readRefs_181 rfl (lv_at hl 0 rfl) ?_
    refine y_getI C fl_X8_172 hw (ocr SB) rfl dX8_readRefs_182 (fun v27 t27 => ?_)
    refine y_cVV C (As := [.int v26, .int v27]) (rest := []) ml_X8_195 (kX8_fails l G SB S t26 t27 h) (ocr SB) (T := TX8) (N := 60) rfl (by decide) ⟨(Nat.le_of_ble_eq_true rfl), (Nat.le_of_ble_eq_true rfl)⟩ hl.1 rfl rfl (Nat.le_of_ble_eq_true rfl) hw hS dX8_readRefs_185 (fun S_28 H locs h hw hS => ?_)
    exact y_vret C hw hS h dX8_readRefs_188
set_option maxHeartbeats 4000000 in
set_option maxRecDepth 10000 in
theorem uX8_readRefs_74_b {p : Program} {l : Launch} {e : Env} {s : State} {m : MethodId} {args : Array Value} {below : List Frame} {meth : Method} {c : Code} {G : GG} {SB : St} (C : Cx p s m args meth c G RX8 cX8_readRefs 8 none) {S : St} {H : Heap} {locs : List Loc} {ls : Array Slot} {P12 : Int → St → Prop} {P74 : Int → Int → Prop} {k : St → Prop} (hw : Wd G ((injR SB) S) H) (hS : va_S (AG G) s.heap H locs) {xv1 : Int32} {x1 : Int} (xt1 : xv1.toInt = x1) {xv2 : Int32} {x2 : Int} (xt2 : xv2.toInt = x2) {xv4 : Int32} {x4 : Int} (xt4 : xv4.toInt = x4) {xv5 : Int32} {x5 : Int} (xt5 : xv5.toInt = x5) {xv6 : Int32} {x6 : Int} (xt6 : xv6.toInt = x6) (hl : lv_has ls 8 [(0, .ref (G.2.2 1042)), (1, .int xv1), (2, .int xv2), (4, .int xv4), (5, .int xv5), (6, .int xv6)]) (hP12 : ∀ {H : Heap} {locs : List Loc} {ls : Array Slot} {Sy : St} {yv3 : Int32} {y3 : Int}, yv3.toInt = y3 → Wd G ((injR SB) Sy) H → va_S (AG G) s.heap H locs → lv_has ls 8 [(0, .ref (G.2.2 1042)), (1, .int xv1), (2, .int xv2), (3, .int yv3)] → P12 y3 Sy → W p l e (rmF 4 94) s m args below meth c H locs 0 0 (MQ below (QcV G (injR SB) k) args s 0 0 (AG G)) (F0 m 12 ls [])) (hP74 : ∀ {H : Heap} {locs : List Loc} {ls : Array Slot} {yv5 : Int32} {y5 : Int} {yv6 : Int32} {y6 : Int}, yv5.toInt = y5 → yv6.toInt = y6 → Wd G ((injR SB) S) H → va_S (AG G) s.heap H locs → lv_has ls 8 [(0, .ref (G.2.2 1042)), (1, .int xv1), (2, .int xv2), (4, .int xv4), (5, .int yv5), (6, .int yv6)] → P74 y5 y6 → W p l e (rmF 4 94) s m args below meth c H locs 0 0 (MQ below (QcV G (injR SB) k) args s 0 0 (AG G)) (F0 m 74 ls [])) (h : wX8_readRefs_74_b S x1 x2 x4 x5 x6 P12 P74 k) : W p l e (rmF 4 94) s m args below meth c H locs 0 0 (MQ below (QcV G (injR SB) k) args s 0 0 (AG G)) (F0 m 74 ls []) := by
  refine lv_iload C.1.1 C.1.2.1 dX8_readRefs_74 (lv_at hl 5 rfl) ?_
  refine lv_aload_n C.1.1 C.1.2.1 dX8_readRefs_76 rfl (lv_at hl 0 rfl) ?_
  refine y_getA C fl_X8_85 hw (ocr SB) rfl (o := 16) rfl dX8_readRefs_77 ?_
  refine lv_iload_n C.1.1 C.1.2.1 dX8_readRefs_80 rfl (lv_at hl 2 rfl) ?_
  obtain ⟨b2, h⟩ := h
  refine y_iald C hw (acr_25 SB) xt2 b2 dX8_readRefs_81 (fun v2 t2 => ?_)
  refine y_icmp_ge C xt6 t2 dX8_readRefs_82 (tgt := 119) (by decide) (fun c3 => ?_) (fun c3 => ?_)
  · have h := h.1 c3
    refine lv_iload C.1.1 C.1.2.1 dX8_readRefs_119 (lv_at hl 4 rfl) ?_
    refine y_if_ne C xt5 dX8_readRefs_121 (tgt := 158) (by decide) (fun c4 => ?_) (fun c4 => ?_)
    · have h := h.1 c4
      exact uX8_readRefs_158 C hw hS  (lv_sub hl [0] rfl)  h
    · have h := h.2 c4
      refine lv_aload_n C.1.1 C.1.2.1 dX8_readRefs_124 rfl (lv_at hl 0 rfl) ?_
      refine y_getA C fl_X8_70 hw (ocr SB) rfl (o := 11) rfl dX8_readRefs_125 ?_
      refine lv_aload_n C.1.1 C.1.2.1 dX8_readRefs_128 rfl (lv_at hl 0 rfl) ?_
      refine lv_iload C.1.1 C.1.2.1 dX8_readRefs_129 (lv_at hl 3 rfl) ?_
      refine y_cVIp C (As := [.int xv4]) (rest := [.ref (G.2.2 (1053))]) ml_X8_214 (kX8_t l G SB S xt4 h) (ocr SB) (T := TX8) (N := 60) rfl (by decide) ⟨(Nat.le_of_ble_eq_true rfl), (Nat.le_of_ble_eq_true rfl)⟩ hl.1 rfl rfl (Nat.le_of_ble_eq_true rfl) hw hS dX8_readRefs_131 (fun v6 x_6 H locs t6 h hw hS => ?_)
      obtain ⟨b7, h⟩ := h
      refine y_iald C hw (acr_20 SB) t6 b7 dX8_readRefs_134 (fun v7 t7 => ?_)
      refine y_iconst C dX8_readRefs_135 ⟨by decide, by decide⟩ (fun v8 t8 => ?_)
      refine y_icmp_ge C t7 t8 dX8_readRefs_136 (tgt := 168) (by decide) (fun c9 => ?_) (fun c9 => ?_)
      · have h := h.1 c9
        exact uX8_readRefs_168 C hw hS xt1 xt2 xt4 (lv_sub hl [0, 1, 2, 3] rfl) hP12 h
      · have h := h.2 c9
        refine lv_aload_n C.1.1 C.1.2.1 dX8_readRefs_139 rfl (lv_at hl 0 rfl) ?_
        refine y_getA C fl_X8_70 hw (ocr SB) rfl (o := 11) rfl dX8_readRefs_140 ?_
        refine lv_iload_n C.1.1 C.1.2.1 dX8_readRefs_143 rfl (lv_at hl 2 rfl) ?_
        obtain ⟨b11, h⟩ := h
        refine y_iald C hw (acr_20 SB) xt2 b11 dX8_readRefs_144 (fun v11 t11 => ?_)
        refine y_iconst C dX8_readRefs_145 ⟨by decide, by decide⟩ (fun v12 t12 => ?_)
        refine y_icmp_eq C t11 t12 dX8_readRefs_146 (tgt := 158) (by decide) (fun c13 => ?_) (fun c13 => ?_)
        · have h := h.1 c13
          exact uX8_readRefs_158 C hw hS  (lv_sub hl [0] rfl)  h
        · have h := h.2 c13
          refine lv_aload_n C.1.1 C.1.2.1 dX8_readRefs_149 rfl (lv_at hl 0 rfl) ?_
          refine y_getA C fl_X8_85 hw (ocr SB) rfl (o := 16) rfl dX8_readRefs_150 ?_
          refine lv_iload_n C.1.1 C.1.2.1 dX8_readRefs_153 rfl (lv_at hl 2 rfl) ?_
          obtain ⟨b15, h⟩ := h
          refine y_iald C hw (acr_25 SB) xt2 b15 dX8_readRefs_154 (fun v15 t15 => ?_)
          refine y_if_le C t15 dX8_readRefs_155 (tgt := 168) (by decide) (fun c16 => ?_) (fun c16 => ?_)
          · have h := h.1 c16
            exact uX8_readRefs_168 C hw hS xt1 xt2 xt4 (lv_sub hl [0, 1, 2, 3] rfl) hP12 h
          · have h := h.2 c16
            exact uX8_readRefs_158 C hw hS  (lv_sub hl [0] rfl)  h
  · have h := h.2 c3
    refine lv_iload C.1.1 C.1.2.1 dX8_readRefs_85 (lv_at hl 4 rfl) ?_
    refine y_if_ne C xt5 dX8_readRefs_87 (tgt := 106) (by decide) (fun c17 => ?_) (fun c17 => ?_)
    · have h := h.1 c17
      exact uX8_readRefs_106 C hw hS xt1 xt2 xt4 xt6 (lv_sub hl [0, 1, 2, 3, 5] rfl) hP12 hP74 h
    · have h := h.2 c17
      refine lv_aload_n C.1.1 C.1.2.1 dX8_readRefs_90 rfl (lv_at hl 0 rfl) ?_
      refine y_getA C fl_X8_88 hw (ocr SB) rfl (o := 17) rfl dX8_readRefs_91 ?_
      refine y_iconst C dX8_readRefs_94 ⟨by decide, by decide⟩ (fun v19 t19 => ?_)
      refine lv_iload_n C.1.1 C.1.2.1 dX8_readRefs_95 rfl (lv_at hl 2 rfl) ?_
      refine y_imul C t19 xt2 dX8_readRefs_96 (fun v20 t20 => ?_)
      refine lv_iload C.1.1 C.1.2.1 dX8_readRefs_97 (lv_at hl 5 rfl) ?_
      refine y_iadd C t20 xt6 dX8_readRefs_99 (fun v21 t21 => ?_)
      obtain ⟨b22, h⟩ := h
      refine y_iald C hw (acr_26 SB) t21 b22 dX8_readRefs_100 (fun v22 t22 => ?_)
      refine lv_iload C.1.1 C.1.2.1 dX8_readRefs_101 (lv_at hl 3 rfl) ?_
      refine y_icmp_ne C t22 xt4 dX8_readRefs_103 (tgt := 110) (by decide) (fun c23 => ?_) (fun c23 => ?_)
      · have h := h.1 c23
        refine y_iconst C dX8_readRefs_110 ⟨by decide, by decide⟩ (fun v24 t24 => ?_)
        refine lv_istore (lv' := [(5, .int v24), (0, .ref (G.2.2 1042)), (1, .int xv1), (2, .int xv2), (4, .int xv4), (6, .int xv6)]) C.1.1 C.1.2.1 dX8_readRefs_111 hl (by decide) rfl (fun ls hl => ?_)
        obtain ⟨x_25, e25⟩ : ∃ z : Int, z = w32 (x6 + 1) := ⟨_, rfl⟩
        have h := h x_25 e25
        obtain ⟨v25, t25, g25⟩ : ∃ z : Int32, z.toInt = x_25 ∧ xv6 + Int32.ofInt 1 = z := ⟨_, (ti_inc xt6 ⟨by decide, by decide⟩).trans e25.symm, rfl⟩
        refine lv_iinc (v := v25) (lv' := [(6, .int v25), (5, .int v24), (0, .ref (G.2.2 1042)), (1, .int xv1), (2, .int xv2), (4, .int xv4)]) C.1.1 C.1.2.1 dX8_readRefs_113 hl (k := 5) rfl g25 (by decide) rfl (fun ls hl => ?_)
        refine lv_goto (tgt := 74) C.1.1 C.1.2.1 dX8_readRefs_116 (by decide) ?_
        exact hP74 t24 t25 hw hS (lv_sub hl [2, 3, 4, 5, 1, 0] rfl) h
      · have h := h.2 c23
        exact uX8_readRefs_106 C hw hS xt1 xt2 xt4 xt6 (lv_sub hl [0, 1, 2, 3, 5] rfl) hP12 hP74 h
set_option maxHeartbeats 4000000 in
set_option maxRecDepth 10000 in
theorem uX8_readRefs_74 {p : Program} {l : Launch} {e : Env} {s : State} {m : MethodId} {args : Array Value} {below : List Frame} {meth : Method} {c : Code} {G : GG} {SB : St} (C : Cx p s m args meth c G RX8 cX8_readRefs 8 none) {S : St} {H : Heap} {locs : List Loc} {ls : Array Slot} {P12 : Int → St → Prop} {k : St → Prop} (hw : Wd G ((injR SB) S) H) (hS : va_S (AG G) s.heap H locs) {xv1 : Int32} {x1 : Int} (xt1 : xv1.toInt = x1) {xv2 : Int32} {x2 : Int} (xt2 : xv2.toInt = x2) {xv4 : Int32} {x4 : Int} (xt4 : xv4.toInt = x4) {xv5 : Int32} {x5 : Int} (xt5 : xv5.toInt = x5) {xv6 : Int32} {x6 : Int} (xt6 : xv6.toInt = x6) (hl : lv_has ls 8 [(0, .ref (G.2.2 1042)), (1, .int xv1), (2, .int xv2), (4, .int xv4), (5, .int xv5), (6, .int xv6)]) (hP12 : ∀ {H : Heap} {locs : List Loc} {ls : Array Slot} {Sy : St} {yv3 : Int32} {y3 : Int}, yv3.toInt = y3 → Wd G ((injR SB) Sy) H → va_S (AG G) s.heap H locs → lv_has ls 8 [(0, .ref (G.2.2 1042)), (1, .int xv1), (2, .int xv2), (3, .int yv3)] → P12 y3 Sy → W p l e (rmF 4 94) s m args below meth c H locs 0 0 (MQ below (QcV G (injR SB) k) args s 0 0 (AG G)) (F0 m 12 ls [])) (h : wX8_readRefs_74 S x1 x2 x4 x5 x6 P12 k) : W p l e (rmF 4 94) s m args below meth c H locs 0 0 (MQ below (QcV G (injR SB) k) args s 0 0 (AG G)) (F0 m 74 ls []) := by
  have key : ∀ (n : Nat) {H : Heap} {locs : List Loc} {ls : Array Slot} {xv5 : Int32} {x5 : Int} {xv6 : Int32} {x6 : Int}, xv5.toInt = x5 → xv6.toInt = x6 → Wd G ((injR SB) S) H → va_S (AG G) s.heap H locs → lv_has ls 8 [(0, .ref (G.2.2 1042)), (1, .int xv1), (2, .int xv2), (4, .int xv4), (5, .int xv5), (6, .int xv6)] → itP (fun (P : Int × Int → Prop) (a : Int × Int) => wX8_readRefs_74_b S x1 x2 x4 a.1 a.2 P12 (fun b0 b1 => P (b0, b1)) k) n (x5, x6) → W p l e (rmF 4 94) s m args below meth c H locs 0 0 (MQ below (QcV G (injR SB) k) args s 0 0 (AG G)) (F0 m 74 ls []) := by
    intro n
    induction n with
    | zero => intro H locs ls xv5 x5 xv6 x6 xt5 xt6 hw hS hl h; exact h.elim
    | succ n ih =>
      intro H locs ls xv5 x5 xv6 x6 xt5 xt6 hw hS hl h
      exact uX8_readRefs_74_b C hw hS xt1 xt2 xt4 xt5 xt6 hl hP12 (P74 := fun b0 b1 => itP _ n (b0, b1)) (fun q0 q1 hw hS hl h => ih q0 q1 hw hS hl h) h
  obtain ⟨n, hn⟩ := h
  exact key n xt5 xt6 hw hS hl hn
set_option maxHeartbeats 4000000 in
set_option maxRecDepth 10000 in
theorem uX8_readRefs_12_b {p : Program} {l : Launch} {e : Env} {s : State} {m : MethodId} {args : Array Value} {below : List Frame} {meth : Method} {c : Code} {G : GG} {SB : St} (C : Cx p s m args meth c G RX8 cX8_readRefs 8 none) {S : St} {H : Heap} {locs : List Loc} {ls : Array Slot}  {P12 : Int → St → Prop} {k : St → Prop} (hw : Wd G ((injR SB) S) H) (hS : va_S (AG G) s.heap H locs) {xv1 : Int32} {x1 : Int} (xt1 : xv1.toInt = x1) {xv2 : Int32} {x2 : Int} (xt2 : xv2.toInt = x2) {xv3 : Int32} {x3 : Int} (xt3 : xv3.toInt = x3) (hl : lv_has ls 8 [(0, .ref (G.2.2 1042)), (1, .int xv1), (2, .int xv2), (3, .int xv3)])  (hP12 : ∀ {H : Heap} {locs : List Loc} {ls : Array Slot} {Sy : St} {yv3 : Int32} {y3 : Int}, yv3.toInt = y3 → Wd G ((injR SB) Sy) H → va_S (AG G) s.heap H locs → lv_has ls 8 [(0, .ref (G.2.2 1042)), (1, .int xv1), (2, .int xv2), (3, .int yv3)] → P12 y3 Sy → W p l e (rmF 4 94) s m args below meth c H locs 0 0 (MQ below (QcV G (injR SB) k) args s 0 0 (AG G)) (F0 m 12 ls [])) (h : wX8_readRefs_12_b S x1 x2 x3 P12 k) : W p l e (rmF 4 94) s m args below meth c H locs 0 0 (MQ below (QcV G (injR SB) k) args s 0 0 (AG G)) (F0 m 12 ls []) := by
  refine lv_iload_n C.1.1 C.1.2.1 dX8_readRefs_12 rfl (lv_at hl 3 rfl) ?_
  refine y_if_eq C xt3 dX8_readRefs_13 (tgt := 351) (by decide) (fun c1 => ?_) (fun c1 => ?_)
  · have h := h.1 c1
    exact y_vret C hw hS h dX8_readRefs_351
  · have h := h.2 c1
    refine lv_aload_n C.1.1 C.1.2.1 dX8_readRefs_16 rfl (lv_at hl 0 rfl) ?_
    refine y_cVIp C (As := []) (rest := []) ml_X8_261 (kX8_goesOn l G SB S  h) (ocr SB) (T := TX8) (N := 60) rfl (by decide) ⟨(Nat.le_of_ble_eq_true rfl), (Nat.le_of_ble_eq_true rfl)⟩ hl.1 rfl rfl (Nat.le_of_ble_eq_true rfl) hw hS dX8_readRefs_17 (fun v2 x_2 H locs t2 h hw hS => ?_)
    refine y_if_eq C t2 dX8_readRefs_20 (tgt := 351) (by decide) (fun c3 => ?_) (fun c3 => ?_)
    · have h := h.1 c3
      exact y_vret C hw hS h dX8_readRefs_351
    · have h := h.2 c3
      refine lv_aload_n C.1.1 C.1.2.1 dX8_readRefs_23 rfl (lv_at hl 0 rfl) ?_
      refine y_iconst C dX8_readRefs_24 ⟨by decide, by decide⟩ (fun v4 t4 => ?_)
      refine y_cVIp C (As := [.int v4]) (rest := []) ml_X8_199 (kX8_is l G SB S t4 h) (ocr SB) (T := TX8) (N := 60) rfl (by decide) ⟨(Nat.le_of_ble_eq_true rfl), (Nat.le_of_ble_eq_true rfl)⟩ hl.1 rfl rfl (Nat.le_of_ble_eq_true rfl) hw hS dX8_readRefs_25 (fun v5 x_5 H locs t5 h hw hS => ?_)
      refine y_if_ne C t5 dX8_readRefs_28 (tgt := 36) (by decide) (fun c6 => ?_) (fun c6 => ?_)
      · have h := h.1 c6
        refine lv_aload_n C.1.1 C.1.2.1 dX8_readRefs_36 rfl (lv_at hl 0 rfl) ?_
        refine lv_aload_n C.1.1 C.1.2.1 dX8_readRefs_37 rfl (lv_at hl 0 rfl) ?_
        refine y_getJ C fl_X8_182 hw (ocr SB) rfl dX8_readRefs_38 (fun v7 t7 => ?_)
        refine lv_iload_n C.1.1 C.1.2.1 dX8_readRefs_41 rfl (lv_at hl 1 rfl) ?_
        refine y_cVIp C (As := [.long v7, .int xv1]) (rest := []) ml_X8_243 (kX8_seenType l G SB S t7 xt1 h) (ocr SB) (T := TX8) (N := 60) rfl (by decide) ⟨(Nat.le_of_ble_eq_true rfl), (Nat.le_of_ble_eq_true rfl)⟩ hl.1 rfl rfl (Nat.le_of_ble_eq_true rfl) hw hS dX8_readRefs_42 (fun v8 x_8 H locs t8 h hw hS => ?_)
        refine lv_istore (lv' := [(4, .int v8), (0, .ref (G.2.2 1042)), (1, .int xv1), (2, .int xv2), (3, .int xv3)]) C.1.1 C.1.2.1 dX8_readRefs_45 hl (by decide) rfl (fun ls hl => ?_)
        refine lv_iload C.1.1 C.1.2.1 dX8_readRefs_47 (lv_at hl 0 rfl) ?_
        refine y_if_lt C t8 dX8_readRefs_49 (tgt := 58) (by decide) (fun c9 => ?_) (fun c9 => ?_)
        · have h := h.1 c9
          exact uX8_readRefs_58 C hw hS  (lv_sub hl [1] rfl)  h
        · have h := h.2 c9
          refine lv_iload C.1.1 C.1.2.1 dX8_readRefs_52 (lv_at hl 0 rfl) ?_
          refine lv_iload_n C.1.1 C.1.2.1 dX8_readRefs_54 rfl (lv_at hl 2 rfl) ?_
          refine y_icmp_ne C t8 xt1 dX8_readRefs_55 (tgt := 68) (by decide) (fun c10 => ?_) (fun c10 => ?_)
          · have h := h.1 c10
            refine y_iconst C dX8_readRefs_68 ⟨by decide, by decide⟩ (fun v11 t11 => ?_)
            refine lv_istore (lv' := [(5, .int v11), (4, .int v8), (0, .ref (G.2.2 1042)), (1, .int xv1), (2, .int xv2), (3, .int xv3)]) C.1.1 C.1.2.1 dX8_readRefs_69 hl (by decide) rfl (fun ls hl => ?_)
            refine y_iconst C dX8_readRefs_71 ⟨by decide, by decide⟩ (fun v12 t12 => ?_)
            refine lv_istore (lv' := [(6, .int v12), (5, .int v11), (4, .int v8), (0, .ref (G.2.2 1042)), (1, .int xv1), (2, .int xv2), (3, .int xv3)]) C.1.1 C.1.2.1 dX8_readRefs_72 hl (by decide) rfl (fun ls hl => ?_)
            exact uX8_readRefs_74 C hw hS xt1 xt2 t8 t11 t12 (lv_sub hl [3, 4, 5, 2, 1, 0] rfl) hP12 h
          · have h := h.2 c10
            exact uX8_readRefs_58 C hw hS  (lv_sub hl [1] rfl)  h
      · have h := h.2 c6
        refine lv_aload_n C.1.1 C.1.2.1 dX8_readRefs_31 rfl (lv_at hl 0 rfl) ?_
        refine y_cVV C (As := []) (rest := []) ml_X8_205 (kX8_odd l G SB S  h) (ocr SB) (T := TX8) (N := 60) rfl (by decide) ⟨(Nat.le_of_ble_eq_true rfl), (Nat.le_of_ble_eq_true rfl)⟩ hl.1 rfl rfl (Nat.le_of_ble_eq_true rfl) hw hS dX8_readRefs_32 (fun S_13 H locs h hw hS => ?_)
        exact y_vret C hw hS h dX8_readRefs_35
set_option maxHeartbeats 4000000 in
set_option maxRecDepth 10000 in
theorem uX8_readRefs_12 {p : Program} {l : Launch} {e : Env} {s : State} {m : MethodId} {args : Array Value} {below : List Frame} {meth : Method} {c : Code} {G : GG} {SB : St} (C : Cx p s m args meth c G RX8 cX8_readRefs 8 none) {S : St} {H : Heap} {locs : List Loc} {ls : Array Slot}  {k : St → Prop} (hw : Wd G ((injR SB) S) H) (hS : va_S (AG G) s.heap H locs) {xv1 : Int32} {x1 : Int} (xt1 : xv1.toInt = x1) {xv2 : Int32} {x2 : Int} (xt2 : xv2.toInt = x2) {xv3 : Int32} {x3 : Int} (xt3 : xv3.toInt = x3) (hl : lv_has ls 8 [(0, .ref (G.2.2 1042)), (1, .int xv1), (2, .int xv2), (3, .int xv3)])  (h : wX8_readRefs_12 S x1 x2 x3 k) : W p l e (rmF 4 94) s m args below meth c H locs 0 0 (MQ below (QcV G (injR SB) k) args s 0 0 (AG G)) (F0 m 12 ls []) := by
  have key : ∀ (n : Nat) {H : Heap} {locs : List Loc} {ls : Array Slot} {S : St} {xv3 : Int32} {x3 : Int}, xv3.toInt = x3 → Wd G ((injR SB) S) H → va_S (AG G) s.heap H locs → lv_has ls 8 [(0, .ref (G.2.2 1042)), (1, .int xv1), (2, .int xv2), (3, .int xv3)] → itP (fun (P : Int × St → Prop) (a : Int × St) => wX8_readRefs_12_b a.2 x1 x2 a.1 (fun b0 b1 => P (b0, b1)) k) n (x3, S) → W p l e (rmF 4 94) s m args below meth c H locs 0 0 (MQ below (QcV G (injR SB) k) args s 0 0 (AG G)) (F0 m 12 ls []) := by
    intro n
    induction n with
    | zero => intro H locs ls S xv3 x3 xt3 hw hS hl h; exact h.elim
    | succ n ih =>
      intro H locs ls S xv3 x3 xt3 hw hS hl h
      exact uX8_readRefs_12_b C hw hS xt1 xt2 xt3 hl  (P12 := fun b0 b1 => itP _ n (b0, b1)) (fun q0 hw hS hl h => ih q0 hw hS hl h) h
  obtain ⟨n, hn⟩ := h
  exact key n xt3 hw hS hl hn
set_option maxHeartbeats 4000000 in
set_option maxRecDepth 10000 in
theorem uX8_readRefs_0 {p : Program} {l : Launch} {e : Env} {s : State} {m : MethodId} {args : Array Value} {below : List Frame} {meth : Method} {c : Code} {G : GG} {SB : St} (C : Cx p s m args meth c G RX8 cX8_readRefs 8 none) {S : St} {H : Heap} {locs : List Loc} {ls : Array Slot}  {k : St → Prop} (hw : Wd G ((injR SB) S) H) (hS : va_S (AG G) s.heap H locs) {xv1 : Int32} {x1 : Int} (xt1 : xv1.toInt = x1) (hl : lv_has ls 8 [(0, .ref (G.2.2 1042)), (1, .int xv1)])  (h : wX8_readRefs_0 S x1 k) : W p l e (rmF 4 94) s m args below meth c H locs 0 0 (MQ below (QcV G (injR SB) k) args s 0 0 (AG G)) (F0 m 0 ls []) := by
  refine lv_aload_n C.1.1 C.1.2.1 dX8_readRefs_0 rfl (lv_at hl 0 rfl) ?_
  refine lv_iload_n C.1.1 C.1.2.1 dX8_readRefs_1 rfl (lv_at hl 1 rfl) ?_
  refine y_cVIp C (As := [.int xv1]) (rest := []) ml_X8_214 (kX8_t l G SB S xt1 h) (ocr SB) (T := TX8) (N := 60) rfl (by decide) ⟨(Nat.le_of_ble_eq_true rfl), (Nat.le_of_ble_eq_true rfl)⟩ hl.1 rfl rfl (Nat.le_of_ble_eq_true rfl) hw hS dX8_readRefs_2 (fun v1 x_1 H locs t1 h hw hS => ?_)
  refine lv_istore_n (lv' := [(2, .int v1), (0, .ref (G.2.2 1042)), (1, .int xv1)]) C.1.1 C.1.2.1 dX8_readRefs_5 rfl hl (by decide) rfl (fun ls hl => ?_)
  refine y_iconst C dX8_readRefs_6 ⟨by decide, by decide⟩ (fun v2 t2 => ?_)
  refine lv_istore_n (lv' := [(3, .int v2), (2, .int v1), (0, .ref (G.2.2 1042)), (1, .int xv1)]) C.1.1 C.1.2.1 dX8_readRefs_7 rfl hl (by decide) rfl (fun ls hl => ?_)
  refine lv_aload_n C.1.1 C.1.2.1 dX8_readRefs_8 rfl (lv_at hl 2 rfl) ?_
  refine y_cVV C (As := []) (rest := []) ml_X8_202 (kX8_next l G SB S  h) (ocr SB) (T := TX8) (N := 60) rfl (by decide) ⟨(Nat.le_of_ble_eq_true rfl), (Nat.le_of_ble_eq_true rfl)⟩ hl.1 rfl rfl (Nat.le_of_ble_eq_true rfl) hw hS dX8_readRefs_9 (fun S_3 H locs h hw hS => ?_)
  exact uX8_readRefs_12 C hw hS xt1 t1 t2 (lv_sub hl [2, 3, 1, 0] rfl)  h
theorem kX8_readRefs (l : Launch) (G : GG) (SB S : St) {xv1 : Int32} {x1 : Int} (xt1 : xv1.toInt = x1) {k : St → Prop} (h : wX8_readRefs S x1 k) : CnV l yX8_readRefs cX8_readRefs 8 none 4 94 G (injR SB) [.ref (G.2.2 1042), .int xv1] S k :=
  cn_body (by decide +kernel) (Nat.le_of_ble_eq_true rfl) (fun p e s m args below meth c ls C hw hl => uX8_readRefs_0 C hw va_S.rf xt1 (lv_sub hl [0, 1] rfl) h)
