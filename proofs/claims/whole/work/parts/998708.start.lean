/-! the law, from its entry: two new objects, then the loop -/
section LawStart
variable {p : Program} {l : Launch} {e : Env} {R : Room} {s : State} {m : MethodId} {args : Array Value} {below : List Frame} {meth : Method} {c : Code} {H : Heap} {locs : List Loc} {cells slots : Nat} {Q : State → Prop} {cc : ByteArray} {pc : Nat} {ls : Array Slot} {rest : List Value} {G : GG} {own : String} {nL : Nat}
theorem l_callI (F : p.tables.exec = Jvm.exec ∧ c.code = cc ∧ c.maxLocals = nL ∧ s.vm.findClass own = some m.cls ∧ ∀ w ∈ wT, w.before args s = true) (hKV : KV G s) {y : MethodName} {cc' : ByteArray} {nL' f' q' mc' ms' index n b : Nat} {As st0 : List Value} {wr wc : va_W} {w1 : (Nat → Nat) → va_W} (hM : CnZ l y cc' nL' f' q' mc' ms' G (.ref b :: As) H.size wc [] w1) (hlink : Cond.methodLink own index y ∈ wT) (hin : Cond.instanceMethod y ∈ wT) (hcode : Cond.code y cc' nL' none ∈ wT) (hini : Cond.initialized y.cls ∈ wT) (hname : y.name = "<init>") (hd : y.cls ≠ "java/lang/invoke/MethodHandle" ∧ y.cls ≠ "java/lang/invoke/VarHandle" ∧ (parseMethodDescriptor y.desc).map (fun d => d.parameters.length) = some n) (hR : f' + 1 ≤ R.frames ∧ 8 + (nL' + 11) + q' ≤ R.locals)
    (hsz : ls.size = nL) (hn : As.length = n) (hst : st0 = As.reverse ++ .ref b :: rest) (hrm : (rest.map fun v => v.category).sum ≤ 8) (hf : cells + mc' ≤ R.cells ∧ slots + ms' ≤ R.slots) (hP : va_P G.1 vwCl (wr ++ wc) H) (hD : va_D (AL0 s) (wr ++ wc)) (hS : va_S (AL0 s) s.heap H locs) (hDc : va_D (fun _ => True) wc) (hdg : decode cc pc = .ok (.invokespecial index, 3))
    (kk : ∀ (ad : Nat → Nat) (H1 : Heap) (locs1 : List Loc), va_P G.1 vwCl (wr ++ w1 ad) H1 → va_D (AL0 s) (wr ++ w1 ad) → va_S (AL0 s) s.heap H1 locs1 → W p l e R s m args below meth c H1 locs1 (cells + mc') (slots + ms') Q (F0 m (pc + 3) ls rest)) : W p l e R s m args below meth c H locs cells slots Q (F0 m pc ls st0) := by
  have hF := z_F hD hS (fun _ h => h)
  have hpre : PreS s H (PcZ G (.ref b :: As) H.size wc []) (.ref b :: As) :=
    ⟨PcZ_blind, fun U hU hw => ⟨rfl, by rw [hU], by rw [hU, List.append_nil]; exact vP_right hP, ⟨va_K.moved hw.alike hKV.1, NwU.warm hw hKV.2.1, va_AO.moved hw.alike hKV.2.2.1, va_AO.moved hw.alike hKV.2.2.2⟩, by rw [List.append_nil]; exact hDc⟩⟩
  refine va_callv (va_runI (As := As) (rest := rest) F hM (cwI n F.2.2.2.2 (wT_in hcode) rfl rfl rfl (F.2.2.2.2 _ hini) (F.2.2.2.2 _ hlink) (F.2.2.2.2 _ hin) hname hd hR) hpre rfl hn hsz hst (lv_room hrm) hdg hf) hS (fun q _ h => hF q h) hF (fun ad t H1 locs1 ht hvm hw hB hz1 hk1 hS1 => ?_)
  obtain ⟨b1, b2⟩ := hB
  rw [ht] at b1
  obtain ⟨j1, j2⟩ := jn hP hD hk1 hF b1 b2
  exact kk ad H1 locs1 j1 j2 hS1
end LawStart
theorem one_D0 {q : Nat} {x : va_E} : va_D (fun _ => True) [(q, x)] :=
  ⟨fun i j p q hi hj _ => by
    have h1 := (List.getElem?_eq_some_iff.mp hi).1
    have h2 := (List.getElem?_eq_some_iff.mp hj).1
    simp at h1 h2
    omega, fun _ _ _ => trivial⟩
/-- THE LAW, from its entry -/
theorem whole_start {p : Program} {e : Env} {s : State} {m : MethodId} {below : List Frame} {meth : Method} {c : Code} (l : Launch) {b L : Nat} {xs : Nat → Int32} (hL : L ≤ 3072) (hC0 : lw_At p s m meth c b L xs) : W p l e room_1 s m #[Value.ref b] below meth c s.heap [] 0 0 (lw_Z below #[Value.ref b] s) (entryFrame m ([Value.ref b] : List Value).toArray 4) := by
  obtain ⟨hx, hb, hr, hml, hown, hts, hX, hbl, hlocks, hgv⟩ := hC0
  obtain ⟨D, cI, hKV⟩ := ent_K hts
  have hT : ∀ w ∈ wT, w.before #[Value.ref b] s = true := fun w hw => hts w (List.mem_filter.mp hw).1
  have hA : ∀ q : Nat, s.heap.size ≤ q → AL0 s q := fun _ h => h
  have hS : va_S (AL0 s) s.heap s.heap [] := va_S.rf
  have hK : va_K D vwCl (tysG (D, cI, fun _ => 0)) s := (hKV (fun _ => 0)).1
  have hP : va_P D vwCl [] s.heap := fun k q h => by simp at h
  have hD : va_D (AL0 s) [] := ⟨fun i j p q h => by simp at h, fun k q h => by simp at h⟩
  have hl := lv_entry ([.ref b]) (n := 4) (Nat.le_of_ble_eq_true rfl)
  rw [lg_entry_eq]
  generalize (lg_sl ([.ref b]) ++ List.replicate (4 - (lg_sl ([.ref b])).length) Slot.unset).toArray = ls at hl ⊢
  have hl : lv_has ls 4 [(0, .ref b)] := hl
  refine va_new (ci := 7) (fs := dX7) (C := RX7) (T := TX7) (N := 9) hx hb hT inX7 tyX7 tyX7_ok hown (hT _ lz_cl7) (hT _ wz_in7) (hT _ wq_X7) hK hP hD hS hA rfl (by decide) (Nat.le_of_ble_eq_true rfl) (Nat.le_of_ble_eq_true rfl) dL_0 (fun q7 H hP hD hS => ?_)
  refine lv_dup hx hb dL_3 rfl ?_
  refine l_callI (G := (D, cI, fun _ => 0)) (As := []) (rest := [.ref q7]) (wr := []) (wc := [(q7, .inr (7, dX7))]) ⟨hx, hb, hml, hown, hT⟩ (hKV _) (z_X7 l (D, cI, fun _ => 0) q7 H.size) lz_ml7 wz_ii7 wz_cd7 wq_X7 rfl wz_dd7 ⟨Nat.le_of_ble_eq_true rfl, Nat.le_of_ble_eq_true rfl⟩ hl.1 rfl rfl (Nat.le_of_ble_eq_true rfl) ⟨Nat.le_of_ble_eq_true rfl, Nat.le_of_ble_eq_true rfl⟩ hP hD hS one_D0 dL_4 (fun a7 H locs hP hD hS => ?_)
  refine lv_astore_n (lv' := [(1, .ref q7), (0, .ref b)]) hx hb dL_7 rfl hl (by decide) rfl (fun ls hl => ?_)
  refine va_new (ci := 8) (fs := dX8) (C := RX8) (T := TX8) (N := 60) hx hb hT inX8 tyX8 tyX8_ok hown (hT _ lz_cl8) (hT _ wz_in8) (hT _ wq_X8) hK hP hD hS hA rfl (by decide) (Nat.le_of_ble_eq_true rfl) (Nat.le_of_ble_eq_true rfl) dL_8 (fun q8 H hP hD hS => ?_)
  refine lv_dup hx hb dL_11 rfl ?_
  refine l_callI (G := (D, cI, fun _ => 0)) (As := []) (rest := [.ref q8]) (wr := vX7 (D, cI, fun _ => 0) q7 a7) (wc := [(q8, .inr (8, dX8))]) ⟨hx, hb, hml, hown, hT⟩ (hKV _) (z_X8 l (D, cI, fun _ => 0) q8 H.size) lz_ml8 wz_ii8 wz_cd8 wq_X8 rfl wz_dd8 ⟨Nat.le_of_ble_eq_true rfl, Nat.le_of_ble_eq_true rfl⟩ hl.1 rfl rfl (Nat.le_of_ble_eq_true rfl) ⟨Nat.le_of_ble_eq_true rfl, Nat.le_of_ble_eq_true rfl⟩ hP hD hS one_D0 dL_12 (fun a8 H locs hP hD hS => ?_)
  refine lv_astore_n (lv' := [(2, .ref q8), (1, .ref q7), (0, .ref b)]) hx hb dL_15 rfl hl (by decide) rfl (fun ls hl => ?_)
  refine lv_iconst (v := nI 0) hx hb dL_16 (by decide) ?_
  refine lv_istore_n (lv' := [(3, .int (nI 0)), (2, .ref q8), (1, .ref q7), (0, .ref b)]) hx hb dL_17 rfl hl (by decide) rfl (fun ls hl => ?_)
  refine W.widen (k := 600000) (n := 7302250) (Nat.le_of_ble_eq_true rfl) (Nat.le_of_ble_eq_true rfl) ?_
  have e7 := G_7 D cI (fun _ => 0) q7 q8 a7 a8
  have e8 := G_8 D cI (fun _ => 0) q7 q8 a7 a8
  rw [← e7, ← e8] at hP hD
  have hl : lv_has ls 4 [(3, .int (nI 0)), (2, .ref (adG q7 q8 a7 a8 1042)), (1, .ref (adG q7 q8 a7 a8 0)), (0, .ref b)] := hl
  generalize adG q7 q8 a7 a8 = ad at hP hD hl
  obtain ⟨hok, hAG⟩ := okG_of (G := (D, cI, ad)) hD
  have hW : Wd (D, cI, ad) (cmb C0 R0) H := Wd_start (G := (D, cI, ad)) (vP_left hP) (vP_right hP)
  have hC : LwC p s m meth c (D, cI, ad) b L xs := ⟨⟨⟨hx, hb, hml, hown, hT⟩, hr, hlocks, ⟨(hKV ad).1, (hKV ad).2.1⟩, hok, ent_Z hts hgv hAG⟩, hAG, hX, hbl, hL⟩
  exact law_loop hr hlocks hC (L + 7) 0 C0 R0 H locs ls (by omega) (by omega) Sim0 hW hS hl
