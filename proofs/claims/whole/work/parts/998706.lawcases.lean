/-! the law: its 21 calls, each of both, printed by program -/
section LawCases
variable {p : Program} {l : Launch} {e : Env} {s : State} {m : MethodId} {below : List Frame} {meth : Method} {c : Code} {H : Heap} {locs : List Loc} {Q : State → Prop} {ls : Array Slot} {G : GG} {b L I : Nat} {xs : Nat → Int32} {SC SR : St}
/-- how the law goes on behind a call of both -/
def LwK (p : Program) (l : Launch) (e : Env) (s : State) (m : MethodId) (below : List Frame) (meth : Method) (c : Code) (Q : State → Prop) (ls : Array Slot) (G : GG) (b : Nat) : Prop :=
  ∀ (SC SR : St) (H : Heap) (locs : List Loc), Sim SC SR → Wd G (cmb SC SR) H → va_S (AL0 s) s.heap H locs → W p l e room_1 s m #[Value.ref b] below meth c H locs 600000 7302250 Q (F0 m 871 ls [])
theorem lc_feed (C : LwC p s m meth c G b L xs) (hs : Sim SC SR) (hW : Wd G (cmb SC SR) H) (hS : va_S (AL0 s) s.heap H locs) (hl : lv_has ls 4 (LV G b I)) (hI : I + 6 ≤ L) (kk : LwK p l e s m below meth c Q ls G b) : W p l e room_1 s m #[Value.ref b] below meth c H locs 600000 7302250 Q (F0 m 132 ls []) := by
  refine lv_aload_n C.1.1.1 C.1.1.2.1 dL_132 rfl (lv_at hl 2 rfl) ?_
  refine l_arg C hS hl hI 1 (by decide) dL_133 dL_134 dL_135 dL_136 dL_137 ?_
  refine l_arg C hS hl hI 2 (by decide) dL_138 dL_139 dL_140 dL_141 dL_142 ?_
  refine l_arg C hS hl hI 3 (by decide) dL_143 dL_144 dL_145 dL_146 dL_147 ?_
  refine l_arg C hS hl hI 4 (by decide) dL_148 dL_149 dL_150 dL_151 dL_152 ?_
  refine l_arg C hS hl hI 5 (by decide) dL_153 dL_154 dL_155 dL_156 dL_157 ?_
  refine l_cVI (As := [.int (xs (I + 1)), .int (xs (I + 2)), .int (xs (I + 3)), .int (xs (I + 4)), .int (xs (I + 5))]) (rest := []) C.1 C.2.1 ml_L_13 (kX7_feed l G SR SC rfl rfl rfl rfl rfl (J_feed hs _ _ _ _ _)) (ock_7 SR) rfl (by decide) ⟨by decide, by decide⟩ ⟨by decide, by decide⟩ hl.1 rfl rfl (Nat.le_of_ble_eq_true rfl) hW hS dL_158 (fun r X u H1 locs1 hr hp hW1 hS1 => ?_)
  refine lv_aload_n C.1.1.1 C.1.1.2.1 dL_161 rfl (lv_at hl 1 rfl) ?_
  refine l_arg C hS1 hl hI 1 (by decide) dL_162 dL_163 dL_164 dL_165 dL_166 ?_
  refine l_arg C hS1 hl hI 2 (by decide) dL_167 dL_168 dL_169 dL_170 dL_171 ?_
  refine l_arg C hS1 hl hI 3 (by decide) dL_172 dL_173 dL_174 dL_175 dL_176 ?_
  refine l_arg C hS1 hl hI 4 (by decide) dL_177 dL_178 dL_179 dL_180 dL_181 ?_
  refine l_arg C hS1 hl hI 5 (by decide) dL_182 dL_183 dL_184 dL_185 dL_186 ?_
  refine l_cVI (As := [.int (xs (I + 1)), .int (xs (I + 2)), .int (xs (I + 3)), .int (xs (I + 4)), .int (xs (I + 5))]) (rest := [.int r]) C.1 C.2.1 ml_L_17 (kX8_feed l G u SR rfl rfl rfl rfl rfl hp) (ocr u) rfl (by decide) ⟨by decide, by decide⟩ ⟨by decide, by decide⟩ hl.1 rfl rfl (Nat.le_of_ble_eq_true rfl) hW1 hS1 dL_187 (fun r2 X2 v H2 locs2 hr2 hp2 hW2 hS2 => ?_)
  obtain ⟨he, hs2⟩ := hp2
  refine lv_icmp_eq (tgt := 871) C.1.1.1 C.1.1.2.1 dL_190 (by decide) (fun _ => ?_) (fun ne => absurd (Int32.toInt_inj.mp (by rw [hr, hr2, he])) ne)
  exact kk _ _ _ _ hs2 hW2 hS2
theorem lc_trim (C : LwC p s m meth c G b L xs) (hs : Sim SC SR) (hW : Wd G (cmb SC SR) H) (hS : va_S (AL0 s) s.heap H locs) (hl : lv_has ls 4 (LV G b I)) (hI : I + 6 ≤ L) (kk : LwK p l e s m below meth c Q ls G b) : W p l e room_1 s m #[Value.ref b] below meth c H locs 600000 7302250 Q (F0 m 195 ls []) := by
  refine lv_aload_n C.1.1.1 C.1.1.2.1 dL_195 rfl (lv_at hl 2 rfl) ?_
  refine l_arg C hS hl hI 1 (by decide) dL_196 dL_197 dL_198 dL_199 dL_200 ?_
  refine l_cVI (As := [.int (xs (I + 1))]) (rest := []) C.1 C.2.1 ml_L_18 (kX7_trim l G SR SC rfl (J_trim hs _)) (ock_7 SR) rfl (by decide) ⟨by decide, by decide⟩ ⟨by decide, by decide⟩ hl.1 rfl rfl (Nat.le_of_ble_eq_true rfl) hW hS dL_201 (fun r X u H1 locs1 hr hp hW1 hS1 => ?_)
  refine lv_aload_n C.1.1.1 C.1.1.2.1 dL_204 rfl (lv_at hl 1 rfl) ?_
  refine l_arg C hS1 hl hI 1 (by decide) dL_205 dL_206 dL_207 dL_208 dL_209 ?_
  refine l_cVI (As := [.int (xs (I + 1))]) (rest := [.int r]) C.1 C.2.1 ml_L_22 (kX8_trim l G u SR rfl hp) (ocr u) rfl (by decide) ⟨by decide, by decide⟩ ⟨by decide, by decide⟩ hl.1 rfl rfl (Nat.le_of_ble_eq_true rfl) hW1 hS1 dL_210 (fun r2 X2 v H2 locs2 hr2 hp2 hW2 hS2 => ?_)
  obtain ⟨he, hs2⟩ := hp2
  refine lv_icmp_eq (tgt := 871) C.1.1.1 C.1.1.2.1 dL_213 (by decide) (fun _ => ?_) (fun ne => absurd (Int32.toInt_inj.mp (by rw [hr, hr2, he])) ne)
  exact kk _ _ _ _ hs2 hW2 hS2
theorem lc_compile (C : LwC p s m meth c G b L xs) (hs : Sim SC SR) (hW : Wd G (cmb SC SR) H) (hS : va_S (AL0 s) s.heap H locs) (hl : lv_has ls 4 (LV G b I)) (hI : I + 6 ≤ L) (kk : LwK p l e s m below meth c Q ls G b) : W p l e room_1 s m #[Value.ref b] below meth c H locs 600000 7302250 Q (F0 m 218 ls []) := by
  refine lv_aload_n C.1.1.1 C.1.1.2.1 dL_218 rfl (lv_at hl 2 rfl) ?_
  refine l_cVI (As := []) (rest := []) C.1 C.2.1 ml_L_23 (kX7_compile l G SR SC  (J_compile hs )) (ock_7 SR) rfl (by decide) ⟨by decide, by decide⟩ ⟨by decide, by decide⟩ hl.1 rfl rfl (Nat.le_of_ble_eq_true rfl) hW hS dL_219 (fun r X u H1 locs1 hr hp hW1 hS1 => ?_)
  refine lv_aload_n C.1.1.1 C.1.1.2.1 dL_222 rfl (lv_at hl 1 rfl) ?_
  refine l_cVI (As := []) (rest := [.int r]) C.1 C.2.1 ml_L_27 (kX8_compile l G u SR  hp) (ocr u) rfl (by decide) ⟨by decide, by decide⟩ ⟨by decide, by decide⟩ hl.1 rfl rfl (Nat.le_of_ble_eq_true rfl) hW1 hS1 dL_223 (fun r2 X2 v H2 locs2 hr2 hp2 hW2 hS2 => ?_)
  obtain ⟨he, hs2⟩ := hp2
  refine lv_icmp_eq (tgt := 871) C.1.1.1 C.1.1.2.1 dL_226 (by decide) (fun _ => ?_) (fun ne => absurd (Int32.toInt_inj.mp (by rw [hr, hr2, he])) ne)
  exact kk _ _ _ _ hs2 hW2 hS2
theorem lc_fault (C : LwC p s m meth c G b L xs) (hs : Sim SC SR) (hW : Wd G (cmb SC SR) H) (hS : va_S (AL0 s) s.heap H locs) (hl : lv_has ls 4 (LV G b I)) (hI : I + 6 ≤ L) (kk : LwK p l e s m below meth c Q ls G b) : W p l e room_1 s m #[Value.ref b] below meth c H locs 600000 7302250 Q (F0 m 231 ls []) := by
  refine lv_aload_n C.1.1.1 C.1.1.2.1 dL_231 rfl (lv_at hl 2 rfl) ?_
  refine l_cVI (As := []) (rest := []) C.1 C.2.1 ml_L_28 (kX7_fault l G SR SC  (J_fault hs )) (ock_7 SR) rfl (by decide) ⟨by decide, by decide⟩ ⟨by decide, by decide⟩ hl.1 rfl rfl (Nat.le_of_ble_eq_true rfl) hW hS dL_232 (fun r X u H1 locs1 hr hp hW1 hS1 => ?_)
  obtain ⟨hp, hu⟩ := hp
  subst hu
  refine lv_aload_n C.1.1.1 C.1.1.2.1 dL_235 rfl (lv_at hl 1 rfl) ?_
  refine l_cVI (As := []) (rest := [.int r]) C.1 C.2.1 ml_L_31 (kX8_fault l G u SR  hp) (ocr u) rfl (by decide) ⟨by decide, by decide⟩ ⟨by decide, by decide⟩ hl.1 rfl rfl (Nat.le_of_ble_eq_true rfl) hW1 hS1 dL_236 (fun r2 X2 v H2 locs2 hr2 hp2 hW2 hS2 => ?_)
  obtain ⟨hp2, hv⟩ := hp2
  subst hv
  obtain ⟨he, hs2⟩ := hp2
  refine lv_icmp_eq (tgt := 871) C.1.1.1 C.1.1.2.1 dL_239 (by decide) (fun _ => ?_) (fun ne => absurd (Int32.toInt_inj.mp (by rw [hr, hr2, he])) ne)
  exact kk _ _ _ _ hs2 hW2 hS2
theorem lc_type (C : LwC p s m meth c G b L xs) (hs : Sim SC SR) (hW : Wd G (cmb SC SR) H) (hS : va_S (AL0 s) s.heap H locs) (hl : lv_has ls 4 (LV G b I)) (hI : I + 6 ≤ L) (kk : LwK p l e s m below meth c Q ls G b) : W p l e room_1 s m #[Value.ref b] below meth c H locs 600000 7302250 Q (F0 m 244 ls []) := by
  refine lv_aload_n C.1.1.1 C.1.1.2.1 dL_244 rfl (lv_at hl 2 rfl) ?_
  refine l_arg C hS hl hI 1 (by decide) dL_245 dL_246 dL_247 dL_248 dL_249 ?_
  refine l_arg C hS hl hI 2 (by decide) dL_250 dL_251 dL_252 dL_253 dL_254 ?_
  refine l_cVI (As := [.int (xs (I + 1)), .int (xs (I + 2))]) (rest := []) C.1 C.2.1 ml_L_32 (kX7_type l G SR SC rfl rfl (J_type hs _ _)) (ock_7 SR) rfl (by decide) ⟨by decide, by decide⟩ ⟨by decide, by decide⟩ hl.1 rfl rfl (Nat.le_of_ble_eq_true rfl) hW hS dL_255 (fun r X u H1 locs1 hr hp hW1 hS1 => ?_)
  obtain ⟨hp, hu⟩ := hp
  subst hu
  refine lv_aload_n C.1.1.1 C.1.1.2.1 dL_258 rfl (lv_at hl 1 rfl) ?_
  refine l_arg C hS1 hl hI 1 (by decide) dL_259 dL_260 dL_261 dL_262 dL_263 ?_
  refine l_arg C hS1 hl hI 2 (by decide) dL_264 dL_265 dL_266 dL_267 dL_268 ?_
  refine l_cVI (As := [.int (xs (I + 1)), .int (xs (I + 2))]) (rest := [.int r]) C.1 C.2.1 ml_L_36 (kX8_type l G u SR rfl rfl hp) (ocr u) rfl (by decide) ⟨by decide, by decide⟩ ⟨by decide, by decide⟩ hl.1 rfl rfl (Nat.le_of_ble_eq_true rfl) hW1 hS1 dL_269 (fun r2 X2 v H2 locs2 hr2 hp2 hW2 hS2 => ?_)
  obtain ⟨he, hs2⟩ := hp2
  refine lv_icmp_eq (tgt := 871) C.1.1.1 C.1.1.2.1 dL_272 (by decide) (fun _ => ?_) (fun ne => absurd (Int32.toInt_inj.mp (by rw [hr, hr2, he])) ne)
  exact kk _ _ _ _ hs2 hW2 hS2
theorem lc_above (C : LwC p s m meth c G b L xs) (hs : Sim SC SR) (hW : Wd G (cmb SC SR) H) (hS : va_S (AL0 s) s.heap H locs) (hl : lv_has ls 4 (LV G b I)) (hI : I + 6 ≤ L) (kk : LwK p l e s m below meth c Q ls G b) : W p l e room_1 s m #[Value.ref b] below meth c H locs 600000 7302250 Q (F0 m 277 ls []) := by
  refine lv_aload_n C.1.1.1 C.1.1.2.1 dL_277 rfl (lv_at hl 2 rfl) ?_
  refine l_arg C hS hl hI 1 (by decide) dL_278 dL_279 dL_280 dL_281 dL_282 ?_
  refine l_arg C hS hl hI 2 (by decide) dL_283 dL_284 dL_285 dL_286 dL_287 ?_
  refine l_cVI (As := [.int (xs (I + 1)), .int (xs (I + 2))]) (rest := []) C.1 C.2.1 ml_L_37 (kX7_above l G SR SC rfl rfl (J_above hs _ _)) (ock_7 SR) rfl (by decide) ⟨by decide, by decide⟩ ⟨by decide, by decide⟩ hl.1 rfl rfl (Nat.le_of_ble_eq_true rfl) hW hS dL_288 (fun r X u H1 locs1 hr hp hW1 hS1 => ?_)
  obtain ⟨hp, hu⟩ := hp
  subst hu
  refine lv_aload_n C.1.1.1 C.1.1.2.1 dL_291 rfl (lv_at hl 1 rfl) ?_
  refine l_arg C hS1 hl hI 1 (by decide) dL_292 dL_293 dL_294 dL_295 dL_296 ?_
  refine l_arg C hS1 hl hI 2 (by decide) dL_297 dL_298 dL_299 dL_300 dL_301 ?_
  refine l_cVI (As := [.int (xs (I + 1)), .int (xs (I + 2))]) (rest := [.int r]) C.1 C.2.1 ml_L_40 (kX8_above l G u SR rfl rfl hp) (ocr u) rfl (by decide) ⟨by decide, by decide⟩ ⟨by decide, by decide⟩ hl.1 rfl rfl (Nat.le_of_ble_eq_true rfl) hW1 hS1 dL_302 (fun r2 X2 v H2 locs2 hr2 hp2 hW2 hS2 => ?_)
  obtain ⟨he, hs2⟩ := hp2
  refine lv_icmp_eq (tgt := 871) C.1.1.1 C.1.1.2.1 dL_305 (by decide) (fun _ => ?_) (fun ne => absurd (Int32.toInt_inj.mp (by rw [hr, hr2, he])) ne)
  exact kk _ _ _ _ hs2 hW2 hS2
theorem lc_under (C : LwC p s m meth c G b L xs) (hs : Sim SC SR) (hW : Wd G (cmb SC SR) H) (hS : va_S (AL0 s) s.heap H locs) (hl : lv_has ls 4 (LV G b I)) (hI : I + 6 ≤ L) (kk : LwK p l e s m below meth c Q ls G b) : W p l e room_1 s m #[Value.ref b] below meth c H locs 600000 7302250 Q (F0 m 310 ls []) := by
  refine lv_aload_n C.1.1.1 C.1.1.2.1 dL_310 rfl (lv_at hl 2 rfl) ?_
  refine l_arg C hS hl hI 1 (by decide) dL_311 dL_312 dL_313 dL_314 dL_315 ?_
  refine l_arg C hS hl hI 2 (by decide) dL_316 dL_317 dL_318 dL_319 dL_320 ?_
  refine l_cVI (As := [.int (xs (I + 1)), .int (xs (I + 2))]) (rest := []) C.1 C.2.1 ml_L_41 (kX7_under l G SR SC rfl rfl (J_under hs _ _)) (ock_7 SR) rfl (by decide) ⟨by decide, by decide⟩ ⟨by decide, by decide⟩ hl.1 rfl rfl (Nat.le_of_ble_eq_true rfl) hW hS dL_321 (fun r X u H1 locs1 hr hp hW1 hS1 => ?_)
  obtain ⟨hp, hu⟩ := hp
  subst hu
  refine lv_aload_n C.1.1.1 C.1.1.2.1 dL_324 rfl (lv_at hl 1 rfl) ?_
  refine l_arg C hS1 hl hI 1 (by decide) dL_325 dL_326 dL_327 dL_328 dL_329 ?_
  refine l_arg C hS1 hl hI 2 (by decide) dL_330 dL_331 dL_332 dL_333 dL_334 ?_
  refine l_cVI (As := [.int (xs (I + 1)), .int (xs (I + 2))]) (rest := [.int r]) C.1 C.2.1 ml_L_44 (kX8_under l G u SR rfl rfl hp) (ocr u) rfl (by decide) ⟨by decide, by decide⟩ ⟨by decide, by decide⟩ hl.1 rfl rfl (Nat.le_of_ble_eq_true rfl) hW1 hS1 dL_335 (fun r2 X2 v H2 locs2 hr2 hp2 hW2 hS2 => ?_)
  obtain ⟨he, hs2⟩ := hp2
  refine lv_icmp_eq (tgt := 871) C.1.1.1 C.1.1.2.1 dL_338 (by decide) (fun _ => ?_) (fun ne => absurd (Int32.toInt_inj.mp (by rw [hr, hr2, he])) ne)
  exact kk _ _ _ _ hs2 hW2 hS2
theorem lc_member (C : LwC p s m meth c G b L xs) (hs : Sim SC SR) (hW : Wd G (cmb SC SR) H) (hS : va_S (AL0 s) s.heap H locs) (hl : lv_has ls 4 (LV G b I)) (hI : I + 6 ≤ L) (kk : LwK p l e s m below meth c Q ls G b) : W p l e room_1 s m #[Value.ref b] below meth c H locs 600000 7302250 Q (F0 m 343 ls []) := by
  refine lv_aload_n C.1.1.1 C.1.1.2.1 dL_343 rfl (lv_at hl 2 rfl) ?_
  refine l_arg C hS hl hI 1 (by decide) dL_344 dL_345 dL_346 dL_347 dL_348 ?_
  refine l_arg C hS hl hI 2 (by decide) dL_349 dL_350 dL_351 dL_352 dL_353 ?_
  refine l_cVI (As := [.int (xs (I + 1)), .int (xs (I + 2))]) (rest := []) C.1 C.2.1 ml_L_45 (kX7_member l G SR SC rfl rfl (J_member hs _ _)) (ock_7 SR) rfl (by decide) ⟨by decide, by decide⟩ ⟨by decide, by decide⟩ hl.1 rfl rfl (Nat.le_of_ble_eq_true rfl) hW hS dL_354 (fun r X u H1 locs1 hr hp hW1 hS1 => ?_)
  obtain ⟨hp, hu⟩ := hp
  subst hu
  refine lv_aload_n C.1.1.1 C.1.1.2.1 dL_357 rfl (lv_at hl 1 rfl) ?_
  refine l_arg C hS1 hl hI 1 (by decide) dL_358 dL_359 dL_360 dL_361 dL_362 ?_
  refine l_arg C hS1 hl hI 2 (by decide) dL_363 dL_364 dL_365 dL_366 dL_367 ?_
  refine l_cVI (As := [.int (xs (I + 1)), .int (xs (I + 2))]) (rest := [.int r]) C.1 C.2.1 ml_L_48 (kX8_member l G u SR rfl rfl hp) (ocr u) rfl (by decide) ⟨by decide, by decide⟩ ⟨by decide, by decide⟩ hl.1 rfl rfl (Nat.le_of_ble_eq_true rfl) hW1 hS1 dL_368 (fun r2 X2 v H2 locs2 hr2 hp2 hW2 hS2 => ?_)
  obtain ⟨he, hs2⟩ := hp2
  refine lv_icmp_eq (tgt := 871) C.1.1.1 C.1.1.2.1 dL_371 (by decide) (fun _ => ?_) (fun ne => absurd (Int32.toInt_inj.mp (by rw [hr, hr2, he])) ne)
  exact kk _ _ _ _ hs2 hW2 hS2
theorem lc_seen (C : LwC p s m meth c G b L xs) (hs : Sim SC SR) (hW : Wd G (cmb SC SR) H) (hS : va_S (AL0 s) s.heap H locs) (hl : lv_has ls 4 (LV G b I)) (hI : I + 6 ≤ L) (kk : LwK p l e s m below meth c Q ls G b) : W p l e room_1 s m #[Value.ref b] below meth c H locs 600000 7302250 Q (F0 m 376 ls []) := by
  refine lv_aload_n C.1.1.1 C.1.1.2.1 dL_376 rfl (lv_at hl 2 rfl) ?_
  refine l_arg C hS hl hI 1 (by decide) dL_377 dL_378 dL_379 dL_380 dL_381 ?_
  refine l_arg C hS hl hI 2 (by decide) dL_382 dL_383 dL_384 dL_385 dL_386 ?_
  refine l_arg C hS hl hI 3 (by decide) dL_387 dL_388 dL_389 dL_390 dL_391 ?_
  refine l_cVI (As := [.int (xs (I + 1)), .int (xs (I + 2)), .int (xs (I + 3))]) (rest := []) C.1 C.2.1 ml_L_49 (kX7_seen l G SR SC rfl rfl rfl (J_seen hs _ _ _)) (ock_7 SR) rfl (by decide) ⟨by decide, by decide⟩ ⟨by decide, by decide⟩ hl.1 rfl rfl (Nat.le_of_ble_eq_true rfl) hW hS dL_392 (fun r X u H1 locs1 hr hp hW1 hS1 => ?_)
  obtain ⟨hp, hu⟩ := hp
  subst hu
  refine lv_aload_n C.1.1.1 C.1.1.2.1 dL_395 rfl (lv_at hl 1 rfl) ?_
  refine l_arg C hS1 hl hI 1 (by decide) dL_396 dL_397 dL_398 dL_399 dL_400 ?_
  refine l_arg C hS1 hl hI 2 (by decide) dL_401 dL_402 dL_403 dL_404 dL_405 ?_
  refine l_arg C hS1 hl hI 3 (by decide) dL_406 dL_407 dL_408 dL_409 dL_410 ?_
  refine l_cVI (As := [.int (xs (I + 1)), .int (xs (I + 2)), .int (xs (I + 3))]) (rest := [.int r]) C.1 C.2.1 ml_L_53 (kX8_seen l G u SR rfl rfl rfl hp) (ocr u) rfl (by decide) ⟨by decide, by decide⟩ ⟨by decide, by decide⟩ hl.1 rfl rfl (Nat.le_of_ble_eq_true rfl) hW1 hS1 dL_411 (fun r2 X2 v H2 locs2 hr2 hp2 hW2 hS2 => ?_)
  obtain ⟨he, hs2⟩ := hp2
  refine lv_icmp_eq (tgt := 871) C.1.1.1 C.1.1.2.1 dL_414 (by decide) (fun _ => ?_) (fun ne => absurd (Int32.toInt_inj.mp (by rw [hr, hr2, he])) ne)
  exact kk _ _ _ _ hs2 hW2 hS2
theorem lc_erased (C : LwC p s m meth c G b L xs) (hs : Sim SC SR) (hW : Wd G (cmb SC SR) H) (hS : va_S (AL0 s) s.heap H locs) (hl : lv_has ls 4 (LV G b I)) (hI : I + 6 ≤ L) (kk : LwK p l e s m below meth c Q ls G b) : W p l e room_1 s m #[Value.ref b] below meth c H locs 600000 7302250 Q (F0 m 419 ls []) := by
  refine lv_aload_n C.1.1.1 C.1.1.2.1 dL_419 rfl (lv_at hl 2 rfl) ?_
  refine l_arg C hS hl hI 1 (by decide) dL_420 dL_421 dL_422 dL_423 dL_424 ?_
  refine l_arg C hS hl hI 2 (by decide) dL_425 dL_426 dL_427 dL_428 dL_429 ?_
  refine l_cVI (As := [.int (xs (I + 1)), .int (xs (I + 2))]) (rest := []) C.1 C.2.1 ml_L_54 (kX7_erased l G SR SC rfl rfl (J_erased hs _ _)) (ock_7 SR) rfl (by decide) ⟨by decide, by decide⟩ ⟨by decide, by decide⟩ hl.1 rfl rfl (Nat.le_of_ble_eq_true rfl) hW hS dL_430 (fun r X u H1 locs1 hr hp hW1 hS1 => ?_)
  obtain ⟨hp, hu⟩ := hp
  subst hu
  refine lv_aload_n C.1.1.1 C.1.1.2.1 dL_433 rfl (lv_at hl 1 rfl) ?_
  refine l_arg C hS1 hl hI 1 (by decide) dL_434 dL_435 dL_436 dL_437 dL_438 ?_
  refine l_arg C hS1 hl hI 2 (by decide) dL_439 dL_440 dL_441 dL_442 dL_443 ?_
  refine l_cVI (As := [.int (xs (I + 1)), .int (xs (I + 2))]) (rest := [.int r]) C.1 C.2.1 ml_L_57 (kX8_erased l G u SR rfl rfl hp) (ocr u) rfl (by decide) ⟨by decide, by decide⟩ ⟨by decide, by decide⟩ hl.1 rfl rfl (Nat.le_of_ble_eq_true rfl) hW1 hS1 dL_444 (fun r2 X2 v H2 locs2 hr2 hp2 hW2 hS2 => ?_)
  obtain ⟨he, hs2⟩ := hp2
  refine lv_icmp_eq (tgt := 871) C.1.1.1 C.1.1.2.1 dL_447 (by decide) (fun _ => ?_) (fun ne => absurd (Int32.toInt_inj.mp (by rw [hr, hr2, he])) ne)
  exact kk _ _ _ _ hs2 hW2 hS2
theorem lc_overrides (C : LwC p s m meth c G b L xs) (hs : Sim SC SR) (hW : Wd G (cmb SC SR) H) (hS : va_S (AL0 s) s.heap H locs) (hl : lv_has ls 4 (LV G b I)) (hI : I + 6 ≤ L) (kk : LwK p l e s m below meth c Q ls G b) : W p l e room_1 s m #[Value.ref b] below meth c H locs 600000 7302250 Q (F0 m 452 ls []) := by
  refine lv_aload_n C.1.1.1 C.1.1.2.1 dL_452 rfl (lv_at hl 2 rfl) ?_
  refine l_arg C hS hl hI 1 (by decide) dL_453 dL_454 dL_455 dL_456 dL_457 ?_
  refine l_arg C hS hl hI 2 (by decide) dL_458 dL_459 dL_460 dL_461 dL_462 ?_
  refine l_cVI (As := [.int (xs (I + 1)), .int (xs (I + 2))]) (rest := []) C.1 C.2.1 ml_L_58 (kX7_overrides l G SR SC rfl rfl (J_overrides hs _ _)) (ock_7 SR) rfl (by decide) ⟨by decide, by decide⟩ ⟨by decide, by decide⟩ hl.1 rfl rfl (Nat.le_of_ble_eq_true rfl) hW hS dL_463 (fun r X u H1 locs1 hr hp hW1 hS1 => ?_)
  obtain ⟨hp, hu⟩ := hp
  subst hu
  refine lv_aload_n C.1.1.1 C.1.1.2.1 dL_466 rfl (lv_at hl 1 rfl) ?_
  refine l_arg C hS1 hl hI 1 (by decide) dL_467 dL_468 dL_469 dL_470 dL_471 ?_
  refine l_arg C hS1 hl hI 2 (by decide) dL_472 dL_473 dL_474 dL_475 dL_476 ?_
  refine l_cVI (As := [.int (xs (I + 1)), .int (xs (I + 2))]) (rest := [.int r]) C.1 C.2.1 ml_L_61 (kX8_overrides l G u SR rfl rfl hp) (ocr u) rfl (by decide) ⟨by decide, by decide⟩ ⟨by decide, by decide⟩ hl.1 rfl rfl (Nat.le_of_ble_eq_true rfl) hW1 hS1 dL_477 (fun r2 X2 v H2 locs2 hr2 hp2 hW2 hS2 => ?_)
  obtain ⟨he, hs2⟩ := hp2
  refine lv_icmp_eq (tgt := 871) C.1.1.1 C.1.1.2.1 dL_480 (by decide) (fun _ => ?_) (fun ne => absurd (Int32.toInt_inj.mp (by rw [hr, hr2, he])) ne)
  exact kk _ _ _ _ hs2 hW2 hS2
theorem lc_bridge (C : LwC p s m meth c G b L xs) (hs : Sim SC SR) (hW : Wd G (cmb SC SR) H) (hS : va_S (AL0 s) s.heap H locs) (hl : lv_has ls 4 (LV G b I)) (hI : I + 6 ≤ L) (kk : LwK p l e s m below meth c Q ls G b) : W p l e room_1 s m #[Value.ref b] below meth c H locs 600000 7302250 Q (F0 m 485 ls []) := by
  refine lv_aload_n C.1.1.1 C.1.1.2.1 dL_485 rfl (lv_at hl 2 rfl) ?_
  refine l_arg C hS hl hI 1 (by decide) dL_486 dL_487 dL_488 dL_489 dL_490 ?_
  refine l_arg C hS hl hI 2 (by decide) dL_491 dL_492 dL_493 dL_494 dL_495 ?_
  refine l_arg C hS hl hI 3 (by decide) dL_496 dL_497 dL_498 dL_499 dL_500 ?_
  refine l_cVI (As := [.int (xs (I + 1)), .int (xs (I + 2)), .int (xs (I + 3))]) (rest := []) C.1 C.2.1 ml_L_62 (kX7_bridge l G SR SC rfl rfl rfl (J_bridge hs _ _ _)) (ock_7 SR) rfl (by decide) ⟨by decide, by decide⟩ ⟨by decide, by decide⟩ hl.1 rfl rfl (Nat.le_of_ble_eq_true rfl) hW hS dL_501 (fun r X u H1 locs1 hr hp hW1 hS1 => ?_)
  obtain ⟨hp, hu⟩ := hp
  subst hu
  refine lv_aload_n C.1.1.1 C.1.1.2.1 dL_504 rfl (lv_at hl 1 rfl) ?_
  refine l_arg C hS1 hl hI 1 (by decide) dL_505 dL_506 dL_507 dL_508 dL_509 ?_
  refine l_arg C hS1 hl hI 2 (by decide) dL_510 dL_511 dL_512 dL_513 dL_514 ?_
  refine l_arg C hS1 hl hI 3 (by decide) dL_515 dL_516 dL_517 dL_518 dL_519 ?_
  refine l_cVI (As := [.int (xs (I + 1)), .int (xs (I + 2)), .int (xs (I + 3))]) (rest := [.int r]) C.1 C.2.1 ml_L_65 (kX8_bridge l G u SR rfl rfl rfl hp) (ocr u) rfl (by decide) ⟨by decide, by decide⟩ ⟨by decide, by decide⟩ hl.1 rfl rfl (Nat.le_of_ble_eq_true rfl) hW1 hS1 dL_520 (fun r2 X2 v H2 locs2 hr2 hp2 hW2 hS2 => ?_)
  obtain ⟨he, hs2⟩ := hp2
  refine lv_icmp_eq (tgt := 871) C.1.1.1 C.1.1.2.1 dL_523 (by decide) (fun _ => ?_) (fun ne => absurd (Int32.toInt_inj.mp (by rw [hr, hr2, he])) ne)
  exact kk _ _ _ _ hs2 hW2 hS2
theorem lc_same (C : LwC p s m meth c G b L xs) (hs : Sim SC SR) (hW : Wd G (cmb SC SR) H) (hS : va_S (AL0 s) s.heap H locs) (hl : lv_has ls 4 (LV G b I)) (hI : I + 6 ≤ L) (kk : LwK p l e s m below meth c Q ls G b) : W p l e room_1 s m #[Value.ref b] below meth c H locs 600000 7302250 Q (F0 m 528 ls []) := by
  refine lv_aload_n C.1.1.1 C.1.1.2.1 dL_528 rfl (lv_at hl 2 rfl) ?_
  refine l_arg C hS hl hI 1 (by decide) dL_529 dL_530 dL_531 dL_532 dL_533 ?_
  refine l_arg C hS hl hI 2 (by decide) dL_534 dL_535 dL_536 dL_537 dL_538 ?_
  refine l_arg C hS hl hI 3 (by decide) dL_539 dL_540 dL_541 dL_542 dL_543 ?_
  refine l_bool C hS _ dL_544 dL_547 dL_548 dL_551 ?_
  refine l_cVI (As := [.int (xs (I + 1)), .int (xs (I + 2)), .int (if xs (I + 3) = 0 then 0 else 1)]) (rest := []) C.1 C.2.1 ml_L_66 (kX7_same l G SR SC rfl rfl rfl (J_same hs _ _ _)) (ock_7 SR) rfl (by decide) ⟨by decide, by decide⟩ ⟨by decide, by decide⟩ hl.1 rfl rfl (Nat.le_of_ble_eq_true rfl) hW hS dL_552 (fun r X u H1 locs1 hr hp hW1 hS1 => ?_)
  obtain ⟨hp, hu⟩ := hp
  subst hu
  refine lv_aload_n C.1.1.1 C.1.1.2.1 dL_555 rfl (lv_at hl 1 rfl) ?_
  refine l_arg C hS1 hl hI 1 (by decide) dL_556 dL_557 dL_558 dL_559 dL_560 ?_
  refine l_arg C hS1 hl hI 2 (by decide) dL_561 dL_562 dL_563 dL_564 dL_565 ?_
  refine l_arg C hS1 hl hI 3 (by decide) dL_566 dL_567 dL_568 dL_569 dL_570 ?_
  refine l_bool C hS1 _ dL_571 dL_574 dL_575 dL_578 ?_
  refine l_cVI (As := [.int (xs (I + 1)), .int (xs (I + 2)), .int (if xs (I + 3) = 0 then 0 else 1)]) (rest := [.int r]) C.1 C.2.1 ml_L_70 (kX8_same l G u SR rfl rfl rfl hp) (ocr u) rfl (by decide) ⟨by decide, by decide⟩ ⟨by decide, by decide⟩ hl.1 rfl rfl (Nat.le_of_ble_eq_true rfl) hW1 hS1 dL_579 (fun r2 X2 v H2 locs2 hr2 hp2 hW2 hS2 => ?_)
  obtain ⟨he, hs2⟩ := hp2
  refine lv_icmp_eq (tgt := 871) C.1.1.1 C.1.1.2.1 dL_582 (by decide) (fun _ => ?_) (fun ne => absurd (Int32.toInt_inj.mp (by rw [hr, hr2, he])) ne)
  exact kk _ _ _ _ hs2 hW2 hS2
theorem lc_lookup (C : LwC p s m meth c G b L xs) (hs : Sim SC SR) (hW : Wd G (cmb SC SR) H) (hS : va_S (AL0 s) s.heap H locs) (hl : lv_has ls 4 (LV G b I)) (hI : I + 6 ≤ L) (kk : LwK p l e s m below meth c Q ls G b) : W p l e room_1 s m #[Value.ref b] below meth c H locs 600000 7302250 Q (F0 m 587 ls []) := by
  refine lv_aload_n C.1.1.1 C.1.1.2.1 dL_587 rfl (lv_at hl 2 rfl) ?_
  refine l_arg C hS hl hI 1 (by decide) dL_588 dL_589 dL_590 dL_591 dL_592 ?_
  refine l_arg C hS hl hI 2 (by decide) dL_593 dL_594 dL_595 dL_596 dL_597 ?_
  refine l_cVI (As := [.int (xs (I + 1)), .int (xs (I + 2))]) (rest := []) C.1 C.2.1 ml_L_71 (kX7_lookup l G SR SC rfl rfl (J_lookup hs _ _)) (ock_7 SR) rfl (by decide) ⟨by decide, by decide⟩ ⟨by decide, by decide⟩ hl.1 rfl rfl (Nat.le_of_ble_eq_true rfl) hW hS dL_598 (fun r X u H1 locs1 hr hp hW1 hS1 => ?_)
  refine lv_aload_n C.1.1.1 C.1.1.2.1 dL_601 rfl (lv_at hl 1 rfl) ?_
  refine l_arg C hS1 hl hI 1 (by decide) dL_602 dL_603 dL_604 dL_605 dL_606 ?_
  refine l_arg C hS1 hl hI 2 (by decide) dL_607 dL_608 dL_609 dL_610 dL_611 ?_
  refine l_cVI (As := [.int (xs (I + 1)), .int (xs (I + 2))]) (rest := [.int r]) C.1 C.2.1 ml_L_74 (kX8_lookup l G u SR rfl rfl hp) (ocr u) rfl (by decide) ⟨by decide, by decide⟩ ⟨by decide, by decide⟩ hl.1 rfl rfl (Nat.le_of_ble_eq_true rfl) hW1 hS1 dL_612 (fun r2 X2 v H2 locs2 hr2 hp2 hW2 hS2 => ?_)
  obtain ⟨he, hs2⟩ := hp2
  refine lv_icmp_eq (tgt := 871) C.1.1.1 C.1.1.2.1 dL_615 (by decide) (fun _ => ?_) (fun ne => absurd (Int32.toInt_inj.mp (by rw [hr, hr2, he])) ne)
  exact kk _ _ _ _ hs2 hW2 hS2
theorem lc_specific (C : LwC p s m meth c G b L xs) (hs : Sim SC SR) (hW : Wd G (cmb SC SR) H) (hS : va_S (AL0 s) s.heap H locs) (hl : lv_has ls 4 (LV G b I)) (hI : I + 6 ≤ L) (kk : LwK p l e s m below meth c Q ls G b) : W p l e room_1 s m #[Value.ref b] below meth c H locs 600000 7302250 Q (F0 m 620 ls []) := by
  refine lv_aload_n C.1.1.1 C.1.1.2.1 dL_620 rfl (lv_at hl 2 rfl) ?_
  refine l_arg C hS hl hI 1 (by decide) dL_621 dL_622 dL_623 dL_624 dL_625 ?_
  refine l_arg C hS hl hI 2 (by decide) dL_626 dL_627 dL_628 dL_629 dL_630 ?_
  refine l_arg C hS hl hI 3 (by decide) dL_631 dL_632 dL_633 dL_634 dL_635 ?_
  refine l_cVI (As := [.int (xs (I + 1)), .int (xs (I + 2)), .int (xs (I + 3))]) (rest := []) C.1 C.2.1 ml_L_75 (kX7_specific l G SR SC rfl rfl rfl (J_specific hs _ _ _)) (ock_7 SR) rfl (by decide) ⟨by decide, by decide⟩ ⟨by decide, by decide⟩ hl.1 rfl rfl (Nat.le_of_ble_eq_true rfl) hW hS dL_636 (fun r X u H1 locs1 hr hp hW1 hS1 => ?_)
  refine lv_aload_n C.1.1.1 C.1.1.2.1 dL_639 rfl (lv_at hl 1 rfl) ?_
  refine l_arg C hS1 hl hI 1 (by decide) dL_640 dL_641 dL_642 dL_643 dL_644 ?_
  refine l_arg C hS1 hl hI 2 (by decide) dL_645 dL_646 dL_647 dL_648 dL_649 ?_
  refine l_arg C hS1 hl hI 3 (by decide) dL_650 dL_651 dL_652 dL_653 dL_654 ?_
  refine l_cVI (As := [.int (xs (I + 1)), .int (xs (I + 2)), .int (xs (I + 3))]) (rest := [.int r]) C.1 C.2.1 ml_L_78 (kX8_specific l G u SR rfl rfl rfl hp) (ocr u) rfl (by decide) ⟨by decide, by decide⟩ ⟨by decide, by decide⟩ hl.1 rfl rfl (Nat.le_of_ble_eq_true rfl) hW1 hS1 dL_655 (fun r2 X2 v H2 locs2 hr2 hp2 hW2 hS2 => ?_)
  obtain ⟨he, hs2⟩ := hp2
  refine lv_icmp_eq (tgt := 871) C.1.1.1 C.1.1.2.1 dL_658 (by decide) (fun _ => ?_) (fun ne => absurd (Int32.toInt_inj.mp (by rw [hr, hr2, he])) ne)
  exact kk _ _ _ _ hs2 hW2 hS2
theorem lc_may (C : LwC p s m meth c G b L xs) (hs : Sim SC SR) (hW : Wd G (cmb SC SR) H) (hS : va_S (AL0 s) s.heap H locs) (hl : lv_has ls 4 (LV G b I)) (hI : I + 6 ≤ L) (kk : LwK p l e s m below meth c Q ls G b) : W p l e room_1 s m #[Value.ref b] below meth c H locs 600000 7302250 Q (F0 m 663 ls []) := by
  refine lv_aload_n C.1.1.1 C.1.1.2.1 dL_663 rfl (lv_at hl 2 rfl) ?_
  refine l_arg C hS hl hI 1 (by decide) dL_664 dL_665 dL_666 dL_667 dL_668 ?_
  refine l_arg C hS hl hI 2 (by decide) dL_669 dL_670 dL_671 dL_672 dL_673 ?_
  refine l_arg C hS hl hI 3 (by decide) dL_674 dL_675 dL_676 dL_677 dL_678 ?_
  refine l_arg C hS hl hI 4 (by decide) dL_679 dL_680 dL_681 dL_682 dL_683 ?_
  refine l_cVI (As := [.int (xs (I + 1)), .int (xs (I + 2)), .int (xs (I + 3)), .int (xs (I + 4))]) (rest := []) C.1 C.2.1 ml_L_79 (kX7_may l G SR SC rfl rfl rfl rfl (J_may hs _ _ _ _)) (ock_7 SR) rfl (by decide) ⟨by decide, by decide⟩ ⟨by decide, by decide⟩ hl.1 rfl rfl (Nat.le_of_ble_eq_true rfl) hW hS dL_684 (fun r X u H1 locs1 hr hp hW1 hS1 => ?_)
  refine lv_aload_n C.1.1.1 C.1.1.2.1 dL_687 rfl (lv_at hl 1 rfl) ?_
  refine l_arg C hS1 hl hI 1 (by decide) dL_688 dL_689 dL_690 dL_691 dL_692 ?_
  refine l_arg C hS1 hl hI 2 (by decide) dL_693 dL_694 dL_695 dL_696 dL_697 ?_
  refine l_arg C hS1 hl hI 3 (by decide) dL_698 dL_699 dL_700 dL_701 dL_702 ?_
  refine l_arg C hS1 hl hI 4 (by decide) dL_703 dL_704 dL_705 dL_706 dL_707 ?_
  refine l_cVI (As := [.int (xs (I + 1)), .int (xs (I + 2)), .int (xs (I + 3)), .int (xs (I + 4))]) (rest := [.int r]) C.1 C.2.1 ml_L_83 (kX8_may l G u SR rfl rfl rfl rfl hp) (ocr u) rfl (by decide) ⟨by decide, by decide⟩ ⟨by decide, by decide⟩ hl.1 rfl rfl (Nat.le_of_ble_eq_true rfl) hW1 hS1 dL_708 (fun r2 X2 v H2 locs2 hr2 hp2 hW2 hS2 => ?_)
  obtain ⟨he, hs2⟩ := hp2
  refine lv_icmp_eq (tgt := 871) C.1.1.1 C.1.1.2.1 dL_711 (by decide) (fun _ => ?_) (fun ne => absurd (Int32.toInt_inj.mp (by rw [hr, hr2, he])) ne)
  exact kk _ _ _ _ hs2 hW2 hS2
theorem lc_rule (C : LwC p s m meth c G b L xs) (hs : Sim SC SR) (hW : Wd G (cmb SC SR) H) (hS : va_S (AL0 s) s.heap H locs) (hl : lv_has ls 4 (LV G b I)) (hI : I + 6 ≤ L) (kk : LwK p l e s m below meth c Q ls G b) : W p l e room_1 s m #[Value.ref b] below meth c H locs 600000 7302250 Q (F0 m 716 ls []) := by
  refine lv_aload_n C.1.1.1 C.1.1.2.1 dL_716 rfl (lv_at hl 2 rfl) ?_
  refine l_arg C hS hl hI 1 (by decide) dL_717 dL_718 dL_719 dL_720 dL_721 ?_
  refine l_arg C hS hl hI 2 (by decide) dL_722 dL_723 dL_724 dL_725 dL_726 ?_
  refine l_arg C hS hl hI 3 (by decide) dL_727 dL_728 dL_729 dL_730 dL_731 ?_
  refine l_arg C hS hl hI 4 (by decide) dL_732 dL_733 dL_734 dL_735 dL_736 ?_
  refine l_arg C hS hl hI 5 (by decide) dL_737 dL_738 dL_739 dL_740 dL_741 ?_
  refine l_cVI (As := [.int (xs (I + 1)), .int (xs (I + 2)), .int (xs (I + 3)), .int (xs (I + 4)), .int (xs (I + 5))]) (rest := []) C.1 C.2.1 ml_L_84 (kX7_rule l G SR SC rfl rfl rfl rfl rfl (J_rule hs _ _ _ _ _)) (ock_7 SR) rfl (by decide) ⟨by decide, by decide⟩ ⟨by decide, by decide⟩ hl.1 rfl rfl (Nat.le_of_ble_eq_true rfl) hW hS dL_742 (fun r X u H1 locs1 hr hp hW1 hS1 => ?_)
  refine lv_aload_n C.1.1.1 C.1.1.2.1 dL_745 rfl (lv_at hl 1 rfl) ?_
  refine l_arg C hS1 hl hI 1 (by decide) dL_746 dL_747 dL_748 dL_749 dL_750 ?_
  refine l_arg C hS1 hl hI 2 (by decide) dL_751 dL_752 dL_753 dL_754 dL_755 ?_
  refine l_arg C hS1 hl hI 3 (by decide) dL_756 dL_757 dL_758 dL_759 dL_760 ?_
  refine l_arg C hS1 hl hI 4 (by decide) dL_761 dL_762 dL_763 dL_764 dL_765 ?_
  refine l_arg C hS1 hl hI 5 (by decide) dL_766 dL_767 dL_768 dL_769 dL_770 ?_
  refine l_cVI (As := [.int (xs (I + 1)), .int (xs (I + 2)), .int (xs (I + 3)), .int (xs (I + 4)), .int (xs (I + 5))]) (rest := [.int r]) C.1 C.2.1 ml_L_87 (kX8_rule l G u SR rfl rfl rfl rfl rfl hp) (ocr u) rfl (by decide) ⟨by decide, by decide⟩ ⟨by decide, by decide⟩ hl.1 rfl rfl (Nat.le_of_ble_eq_true rfl) hW1 hS1 dL_771 (fun r2 X2 v H2 locs2 hr2 hp2 hW2 hS2 => ?_)
  obtain ⟨he, hs2⟩ := hp2
  refine lv_icmp_eq (tgt := 871) C.1.1.1 C.1.1.2.1 dL_774 (by decide) (fun _ => ?_) (fun ne => absurd (Int32.toInt_inj.mp (by rw [hr, hr2, he])) ne)
  exact kk _ _ _ _ hs2 hW2 hS2
theorem lc_hops (C : LwC p s m meth c G b L xs) (hs : Sim SC SR) (hW : Wd G (cmb SC SR) H) (hS : va_S (AL0 s) s.heap H locs) (hl : lv_has ls 4 (LV G b I)) (hI : I + 6 ≤ L) (kk : LwK p l e s m below meth c Q ls G b) : W p l e room_1 s m #[Value.ref b] below meth c H locs 600000 7302250 Q (F0 m 779 ls []) := by
  refine lv_aload_n C.1.1.1 C.1.1.2.1 dL_779 rfl (lv_at hl 2 rfl) ?_
  refine l_cVI (As := []) (rest := []) C.1 C.2.1 ml_L_88 (kX7_hops l G SR SC  (J_hops hs )) (ock_7 SR) rfl (by decide) ⟨by decide, by decide⟩ ⟨by decide, by decide⟩ hl.1 rfl rfl (Nat.le_of_ble_eq_true rfl) hW hS dL_780 (fun r X u H1 locs1 hr hp hW1 hS1 => ?_)
  obtain ⟨hp, hu⟩ := hp
  subst hu
  refine lv_aload_n C.1.1.1 C.1.1.2.1 dL_783 rfl (lv_at hl 1 rfl) ?_
  refine l_cVI (As := []) (rest := [.int r]) C.1 C.2.1 ml_L_91 (kX8_hops l G u SR  hp) (ocr u) rfl (by decide) ⟨by decide, by decide⟩ ⟨by decide, by decide⟩ hl.1 rfl rfl (Nat.le_of_ble_eq_true rfl) hW1 hS1 dL_784 (fun r2 X2 v H2 locs2 hr2 hp2 hW2 hS2 => ?_)
  obtain ⟨hp2, hv⟩ := hp2
  subst hv
  obtain ⟨he, hs2⟩ := hp2
  refine lv_icmp_eq (tgt := 871) C.1.1.1 C.1.1.2.1 dL_787 (by decide) (fun _ => ?_) (fun ne => absurd (Int32.toInt_inj.mp (by rw [hr, hr2, he])) ne)
  exact kk _ _ _ _ hs2 hW2 hS2
theorem lc_conflicts (C : LwC p s m meth c G b L xs) (hs : Sim SC SR) (hW : Wd G (cmb SC SR) H) (hS : va_S (AL0 s) s.heap H locs) (hl : lv_has ls 4 (LV G b I)) (hI : I + 6 ≤ L) (kk : LwK p l e s m below meth c Q ls G b) : W p l e room_1 s m #[Value.ref b] below meth c H locs 600000 7302250 Q (F0 m 792 ls []) := by
  refine lv_aload_n C.1.1.1 C.1.1.2.1 dL_792 rfl (lv_at hl 2 rfl) ?_
  refine l_arg C hS hl hI 1 (by decide) dL_793 dL_794 dL_795 dL_796 dL_797 ?_
  refine l_cVI (As := [.int (xs (I + 1))]) (rest := []) C.1 C.2.1 ml_L_92 (kX7_conflicts l G SR SC rfl (J_conflicts hs _)) (ock_7 SR) rfl (by decide) ⟨by decide, by decide⟩ ⟨by decide, by decide⟩ hl.1 rfl rfl (Nat.le_of_ble_eq_true rfl) hW hS dL_798 (fun r X u H1 locs1 hr hp hW1 hS1 => ?_)
  refine lv_aload_n C.1.1.1 C.1.1.2.1 dL_801 rfl (lv_at hl 1 rfl) ?_
  refine l_arg C hS1 hl hI 1 (by decide) dL_802 dL_803 dL_804 dL_805 dL_806 ?_
  refine l_cVI (As := [.int (xs (I + 1))]) (rest := [.int r]) C.1 C.2.1 ml_L_95 (kX8_conflicts l G u SR rfl hp) (ocr u) rfl (by decide) ⟨by decide, by decide⟩ ⟨by decide, by decide⟩ hl.1 rfl rfl (Nat.le_of_ble_eq_true rfl) hW1 hS1 dL_807 (fun r2 X2 v H2 locs2 hr2 hp2 hW2 hS2 => ?_)
  obtain ⟨he, hs2⟩ := hp2
  refine lv_icmp_eq (tgt := 871) C.1.1.1 C.1.1.2.1 dL_810 (by decide) (fun _ => ?_) (fun ne => absurd (Int32.toInt_inj.mp (by rw [hr, hr2, he])) ne)
  exact kk _ _ _ _ hs2 hW2 hS2
theorem lc_tally (C : LwC p s m meth c G b L xs) (hs : Sim SC SR) (hW : Wd G (cmb SC SR) H) (hS : va_S (AL0 s) s.heap H locs) (hl : lv_has ls 4 (LV G b I)) (hI : I + 6 ≤ L) (kk : LwK p l e s m below meth c Q ls G b) : W p l e room_1 s m #[Value.ref b] below meth c H locs 600000 7302250 Q (F0 m 815 ls []) := by
  refine lv_aload_n C.1.1.1 C.1.1.2.1 dL_815 rfl (lv_at hl 2 rfl) ?_
  refine l_arg C hS hl hI 1 (by decide) dL_816 dL_817 dL_818 dL_819 dL_820 ?_
  refine l_arg C hS hl hI 2 (by decide) dL_821 dL_822 dL_823 dL_824 dL_825 ?_
  refine l_cVI (As := [.int (xs (I + 1)), .int (xs (I + 2))]) (rest := []) C.1 C.2.1 ml_L_96 (kX7_tally l G SR SC rfl rfl (J_tally hs _ _)) (ock_7 SR) rfl (by decide) ⟨by decide, by decide⟩ ⟨by decide, by decide⟩ hl.1 rfl rfl (Nat.le_of_ble_eq_true rfl) hW hS dL_826 (fun r X u H1 locs1 hr hp hW1 hS1 => ?_)
  refine lv_aload_n C.1.1.1 C.1.1.2.1 dL_829 rfl (lv_at hl 1 rfl) ?_
  refine l_arg C hS1 hl hI 1 (by decide) dL_830 dL_831 dL_832 dL_833 dL_834 ?_
  refine l_arg C hS1 hl hI 2 (by decide) dL_835 dL_836 dL_837 dL_838 dL_839 ?_
  refine l_cVI (As := [.int (xs (I + 1)), .int (xs (I + 2))]) (rest := [.int r]) C.1 C.2.1 ml_L_99 (kX8_tally l G u SR rfl rfl hp) (ocr u) rfl (by decide) ⟨by decide, by decide⟩ ⟨by decide, by decide⟩ hl.1 rfl rfl (Nat.le_of_ble_eq_true rfl) hW1 hS1 dL_840 (fun r2 X2 v H2 locs2 hr2 hp2 hW2 hS2 => ?_)
  obtain ⟨he, hs2⟩ := hp2
  refine lv_icmp_eq (tgt := 871) C.1.1.1 C.1.1.2.1 dL_843 (by decide) (fun _ => ?_) (fun ne => absurd (Int32.toInt_inj.mp (by rw [hr, hr2, he])) ne)
  exact kk _ _ _ _ hs2 hW2 hS2
theorem lc_told (C : LwC p s m meth c G b L xs) (hs : Sim SC SR) (hW : Wd G (cmb SC SR) H) (hS : va_S (AL0 s) s.heap H locs) (hl : lv_has ls 4 (LV G b I)) (hI : I + 6 ≤ L) (kk : LwK p l e s m below meth c Q ls G b) : W p l e room_1 s m #[Value.ref b] below meth c H locs 600000 7302250 Q (F0 m 848 ls []) := by
  refine lv_aload_n C.1.1.1 C.1.1.2.1 dL_848 rfl (lv_at hl 2 rfl) ?_
  refine l_arg C hS hl hI 1 (by decide) dL_849 dL_850 dL_851 dL_852 dL_853 ?_
  refine l_cVI (As := [.int (xs (I + 1))]) (rest := []) C.1 C.2.1 ml_L_100 (kX7_told l G SR SC rfl (J_told hs _)) (ock_7 SR) rfl (by decide) ⟨by decide, by decide⟩ ⟨by decide, by decide⟩ hl.1 rfl rfl (Nat.le_of_ble_eq_true rfl) hW hS dL_854 (fun r X u H1 locs1 hr hp hW1 hS1 => ?_)
  obtain ⟨hp, hu⟩ := hp
  subst hu
  refine lv_aload_n C.1.1.1 C.1.1.2.1 dL_857 rfl (lv_at hl 1 rfl) ?_
  refine l_arg C hS1 hl hI 1 (by decide) dL_858 dL_859 dL_860 dL_861 dL_862 ?_
  refine l_cVI (As := [.int (xs (I + 1))]) (rest := [.int r]) C.1 C.2.1 ml_L_103 (kX8_told l G u SR rfl hp) (ocr u) rfl (by decide) ⟨by decide, by decide⟩ ⟨by decide, by decide⟩ hl.1 rfl rfl (Nat.le_of_ble_eq_true rfl) hW1 hS1 dL_863 (fun r2 X2 v H2 locs2 hr2 hp2 hW2 hS2 => ?_)
  obtain ⟨he, hs2⟩ := hp2
  refine lv_icmp_eq (tgt := 871) C.1.1.1 C.1.1.2.1 dL_866 (by decide) (fun _ => ?_) (fun ne => absurd (Int32.toInt_inj.mp (by rw [hr, hr2, he])) ne)
  exact kk _ _ _ _ hs2 hW2 hS2
end LawCases
