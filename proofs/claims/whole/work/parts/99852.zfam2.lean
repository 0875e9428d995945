/-! constructors: Family, its second loop, and whole -/
section Fam2
variable {p : Program} {l : Launch} {e : Env} {R : Room} {s : State} {m : MethodId} {args : Array Value} {below : List Frame} {meth : Method} {c : Code} {Q : State → Prop} {G : GG} {A : Nat → Prop} {h0 q1 q2 q3 q4 q5 : Nat}
theorem one_D {q : Nat} {x : va_E} : va_D (fun _ => True) ([(q, x)] ++ ([] : va_W)) := ⟨fun i j p q hi hj _ => by
  have := (List.getElem?_eq_some_iff.mp hi).1
  have := (List.getElem?_eq_some_iff.mp hj).1
  simp at *
  omega, fun _ _ _ => trivial⟩
theorem z_newq {H : Heap} {locs : List Loc} {cells slots pc nL : Nat} {cc : ByteArray} {own : String} {ls : Array Slot} {rest : List Value} {ws : va_W} (C : Cz p s m args meth c G own cc nL) {Cn : String} {index j : Nat} {cG : ClassId} (hcl : Cond.classLink own index Cn ∈ wT) (hov : va_AO Cn s) (ht : (tysG G)[j]? = some (cG, .object Cn)) (hP : va_P G.1 vwCl ws H) (hD : va_D A ws) (hS : va_S A s.heap H locs) (hA : ∀ q, s.heap.size ≤ q → A q)
    {n : Int32} {N' : Nat} (hn : ¬ n < 0) (hN : n.toNatClampNeg = N') (hbytes : N' * 4 ≤ 536870912) (hcells : cells + 1 ≤ R.cells) (hslots : slots + N' ≤ R.slots) (hdg : decode cc pc = .ok (.anewarray index, 3))
    (kk : ∀ (q : Nat) (H1 : Heap), va_P G.1 vwCl (ws ++ [(q, .inl (cG, N', .inr (.inr (.inr (.inr (fun _ => none))))))]) H1 → va_D A (ws ++ [(q, .inl (cG, N', .inr (.inr (.inr (.inr (fun _ => none))))))]) → va_S A s.heap H1 locs → W p l e R s m args below meth c H1 locs (cells + 1) (slots + N') Q (F0 m (pc + 3) ls (.ref q :: rest))) : W p l e R s m args below meth c H locs cells slots Q (F0 m pc ls (.int n :: rest)) := by
  refine va_newq C.1.1 C.1.2.1 C.1.2.2.2.1 (C.1.2.2.2.2 _ hcl) hov C.2.2.2.2.1 hP hD hS hA hn hN hbytes hcells hslots hdg (fun q cA H1 hK1 hP1 hD1 hS1 => ?_)
  obtain ⟨_, _, _, _, _, e1⟩ := (hK1.2 (tysG G).length (cA, .object Cn) (by simp)).2
  obtain ⟨_, _, _, _, _, e2⟩ := (C.2.2.2.2.1.2 j _ ht).2
  have e3 : cA = cG := Option.some.inj (e1.symm.trans e2)
  subst e3
  exact kk q H1 hP1 hD1 hS1
set_option maxHeartbeats 4000000 in
set_option maxRecDepth 100000 in
theorem fam_l2 {bt : Nat → Nat → Nat} (C : Cz p s m args meth c G RX2 cX2_init 2) (hA : ∀ q, s.heap.size ≤ q → A q) (hRf : 2 ≤ R.frames ∧ 35 ≤ R.locals) (hRc : 512 ≤ R.cells ∧ 10241 ≤ R.slots)
    (kk : ∀ (b : Nat → Nat → Nat) (H : Heap) (locs : List Loc) (ls : Array Slot), va_P G.1 vwCl (F6 G h0 q1 q2 q3 q4 q5 (fT bt 24) (fT b 121) ++ TLs G bt 24 ++ MLs G b 121) H → va_D A (F6 G h0 q1 q2 q3 q4 q5 (fT bt 24) (fT b 121) ++ TLs G bt 24 ++ MLs G b 121) → va_S A s.heap H locs → W p l e R s m args below meth c H locs 512 10241 Q (F0 m 110 ls []))
    (k : Nat) : ∀ (i : Nat), i + k = 121 → ∀ (b : Nat → Nat → Nat) (H : Heap) (locs : List Loc) (ls : Array Slot), va_P G.1 vwCl (F6 G h0 q1 q2 q3 q4 q5 (fT bt 24) (fT b i) ++ TLs G bt 24 ++ MLs G b i) H → va_D A (F6 G h0 q1 q2 q3 q4 q5 (fT bt 24) (fT b i) ++ TLs G bt 24 ++ MLs G b i) → va_S A s.heap H locs → lv_has ls 2 [(1, .int (nI i)), (0, .ref h0)] → W p l e R s m args below meth c H locs (149 + 3 * i) (8547 + 14 * i) Q (F0 m 82 ls []) := by
  induction k with
  | zero =>
    intro i hi b H locs ls hP hD hS hl
    have hi : i = 121 := by omega
    subst hi
    refine lv_iload_n C.1.1 C.1.2.1 dX2_init_82 rfl (lv_at hl 0 rfl) ?_
    refine lv_aload_n C.1.1 C.1.2.1 dX2_init_83 rfl (lv_at hl 1 rfl) ?_
    refine z_get C fl_X2_19 hP 0 rfl rfl dX2_init_84 ?_
    refine va_alen C.1.1 C.1.2.1 C.2.2.2.2.1 hP 2 5 rfl rfl (v := nI 121) rfl dX2_init_87 ?_
    refine lv_icmp_ge (tgt := 110) C.1.1 C.1.2.1 dX2_init_88 (by decide) (fun _ => ?_) (fun z => absurd (nI_le (Nat.le_refl 121) (by decide)) z)
    exact kk b H locs ls hP hD hS
  | succ k ih =>
    intro i hi b H locs ls hP hD hS hl
    refine lv_iload_n C.1.1 C.1.2.1 dX2_init_82 rfl (lv_at hl 0 rfl) ?_
    refine lv_aload_n C.1.1 C.1.2.1 dX2_init_83 rfl (lv_at hl 1 rfl) ?_
    refine z_get C fl_X2_19 hP 0 rfl rfl dX2_init_84 ?_
    refine va_alen C.1.1 C.1.2.1 C.2.2.2.2.1 hP 2 5 rfl rfl (v := nI 121) rfl dX2_init_87 ?_
    refine lv_icmp_ge (tgt := 110) C.1.1 C.1.2.1 dX2_init_88 (by decide) (fun z => absurd z (nI_ge (by omega) (by decide))) (fun _ => ?_)
    refine lv_aload_n C.1.1 C.1.2.1 dX2_init_91 rfl (lv_at hl 1 rfl) ?_
    refine z_get C fl_X2_19 hP 0 rfl rfl dX2_init_92 ?_
    refine lv_iload_n C.1.1 C.1.2.1 dX2_init_95 rfl (lv_at hl 0 rfl) ?_
    refine va_new (ci := 3) (fs := dX3) (C := RX3) (T := TX3) (N := 8) C.1.1 C.1.2.1 C.1.2.2.2.2 inX3 tyX3 tyX3_ok C.1.2.2.2.1 (C.1.2.2.2.2 _ wz_cl_2_17) (C.1.2.2.2.2 _ wz_in3) (C.1.2.2.2.2 _ wq_X3) C.2.2.2.2.1 hP hD hS hA rfl (by decide) (by omega) (by omega) dX2_init_96 (fun q H hP hD hS => ?_)
    refine lv_dup C.1.1 C.1.2.1 dX2_init_99 rfl ?_
    refine z_callN (As := []) (rest := [.ref q, .int (nI i), .ref q2]) (wr := F6 G h0 q1 q2 q3 q4 q5 (fT bt 24) (fT b i) ++ TLs G bt 24 ++ MLs G b i) (wc := [(q, .inr (3, dX3))]) (wro := []) C (z_X3 l G q H.size) wz_mn_2_37 wz_ii3 wz_cd3 wq_X3 rfl wz_dd3 ⟨by omega, by omega⟩ hl.1 rfl rfl (Nat.le_of_ble_eq_true rfl) ⟨by omega, by omega⟩ hP hD hS hA (fun k q hk => by simp at hk) one_D dX2_init_100 (fun ad H locs hP hD hS => ?_)
    have hv : (F6 G h0 q1 q2 q3 q4 q5 (fT bt 24) (fT b i) ++ TLs G bt 24 ++ MLs G b i ++ vX3 G q ad)[150 + 3 * i]? = some (q, .inr (3, [.long 0, .int 0, .int 0, .int 0, .int 0, .ref (ad 1), .ref (ad 2), .int 0])) := by
      rw [List.getElem?_append_right (by rw [List.length_append, List.length_append, TLs_len, MLs_len]; show 6 + 6 * 24 + 3 * i ≤ _; omega)]
      rw [List.length_append, List.length_append, TLs_len, MLs_len]
      show (vX3 G q ad)[150 + 3 * i - (6 + 6 * 24 + 3 * i)]? = _
      rw [show 150 + 3 * i - (6 + 6 * 24 + 3 * i) = 0 by omega]
      rfl
    refine va_astq C.1.1 C.1.2.1 C.2.2.2.2.1 hP hD hS 2 5 (150 + 3 * i) 3 rfl rfl hv rfl (vp_in_nI (by omega) (by decide)) dX2_init_103 (fun H locs hP hD hS => ?_)
    rw [nI_clamp (by omega)] at hP hD
    have hP : va_P G.1 vwCl (F6 G h0 q1 q2 q3 q4 q5 (fT bt 24) (va_up (fT b i) i (some q)) ++ TLs G bt 24 ++ MLs G b i ++ vX3 G q ad) H := hP
    have hD : va_D A (F6 G h0 q1 q2 q3 q4 q5 (fT bt 24) (va_up (fT b i) i (some q)) ++ TLs G bt 24 ++ MLs G b i ++ vX3 G q ad) := hD
    rw [fT_up b i q ad, List.append_assoc, ← MLs_ad] at hP hD
    refine lv_iinc (v := nI (i + 1)) (lv' := [(1, .int (nI (i + 1))), (0, .ref h0)]) C.1.1 C.1.2.1 dX2_init_104 hl (k := 0) rfl (by rw [nI_succ]; rfl) (by decide) rfl (fun ls hl => ?_)
    refine lv_goto (tgt := 82) C.1.1 C.1.2.1 dX2_init_107 (by decide) ?_
    refine W.widen (k := 149 + 3 * (i + 1)) (n := 8547 + 14 * (i + 1)) (by omega) (by omega) ?_
    exact ih (i + 1) (by omega) (adT b i q ad) H locs ls hP hD hS hl
end Fam2
/-- a family's cells: +0 itself, +1 types, +2 members, +3, +4, +5, types from +6, members from +150 -/
def vX2 (G : GG) (h0 : Nat) (ad : Nat → Nat) : va_W := F6 G h0 (ad 1) (ad 2) (ad 3) (ad 4) (ad 5) (fT (fun j r => ad (6 + 6 * j + r)) 24) (fT (fun j r => ad (150 + 3 * j + r)) 121) ++ TLs G (fun j r => ad (6 + 6 * j + r)) 24 ++ MLs G (fun j r => ad (150 + 3 * j + r)) 121
def adF (q1 q2 q3 q4 q5 : Nat) (b b2 : Nat → Nat → Nat) : Nat → Nat := fun x => if x < 6 then (if x = 1 then q1 else if x = 2 then q2 else if x = 3 then q3 else if x = 4 then q4 else q5) else if x < 150 then b ((x - 6) / 6) ((x - 6) % 6) else b2 ((x - 150) / 3) ((x - 150) % 3)
theorem adF_t {q1 q2 q3 q4 q5 : Nat} {b b2 : Nat → Nat → Nat} {j r : Nat} (hj : j < 24) (hr : r ≤ 5) : adF q1 q2 q3 q4 q5 b b2 (6 + 6 * j + r) = b j r := by
  unfold adF
  rw [if_neg (by omega), if_pos (by omega), show (6 + 6 * j + r - 6) / 6 = j by omega, show (6 + 6 * j + r - 6) % 6 = r by omega]
theorem adF_m {q1 q2 q3 q4 q5 : Nat} {b b2 : Nat → Nat → Nat} {j r : Nat} (hr : r ≤ 2) : adF q1 q2 q3 q4 q5 b b2 (150 + 3 * j + r) = b2 j r := by
  unfold adF
  rw [if_neg (by omega), if_neg (by omega), show (150 + 3 * j + r - 150) / 3 = j by omega, show (150 + 3 * j + r - 150) % 3 = r by omega]
theorem vX2_adF (G : GG) (h0 q1 q2 q3 q4 q5 : Nat) (b b2 : Nat → Nat → Nat) : vX2 G h0 (adF q1 q2 q3 q4 q5 b b2) = F6 G h0 q1 q2 q3 q4 q5 (fT b 24) (fT b2 121) ++ TLs G b 24 ++ MLs G b2 121 := by
  unfold vX2
  have e1 : fT (fun j r => adF q1 q2 q3 q4 q5 b b2 (6 + 6 * j + r)) 24 = fT b 24 := by
    funext j
    unfold fT
    by_cases c : j < 24
    · rw [if_pos c, if_pos c]; exact congrArg some (adF_t c (by omega))
    · rw [if_neg c, if_neg c]
  have e2 : fT (fun j r => adF q1 q2 q3 q4 q5 b b2 (150 + 3 * j + r)) 121 = fT b2 121 := by
    funext j
    unfold fT
    by_cases c : j < 121
    · rw [if_pos c, if_pos c]; exact congrArg some (adF_m (by omega))
    · rw [if_neg c, if_neg c]
  rw [e1, e2, TLs_congr G (b := b) 24 (fun j hj r hr => adF_t hj hr), MLs_congr G (b := b2) 121 (fun j hj r hr => adF_m hr)]
  rfl
set_option maxHeartbeats 4000000 in
set_option maxRecDepth 100000 in
theorem z_X2 (l : Launch) (G : GG) (h0 sz : Nat) : CnZ l yX2_init cX2_init 2 2 35 512 10241 G [.ref h0] sz [(h0, .inr (2, dX2))] [] (vX2 G h0) := by
  refine cz_body (by decide) rfl (Nat.le_of_ble_eq_true rfl) ?_
  intro p e s m args below meth c ls C hsz hP hD0 hl
  subst hsz
  have hD := (vD_left hD0).self (sz := s.heap.size)
  have hA : ∀ q : Nat, s.heap.size ≤ q → va_A [(h0, .inr (2, dX2))] s.heap.size q := fun q h => Or.inr h
  have hS : va_S (va_A [(h0, .inr (2, dX2))] s.heap.size) s.heap s.heap [] := va_S.rf
  generalize hAe : va_A [(h0, .inr (2, dX2))] s.heap.size = A at hD hA hS
  have hP : va_P G.1 vwCl [(h0, .inr (2, [.null, .int 0, .null, .int 0, .null, .null, .null, .int 0, .int 0]))] s.heap := hP
  have hD : va_D A [(h0, .inr (2, [.null, .int 0, .null, .int 0, .null, .null, .null, .int 0, .int 0]))] := hD
  refine lv_aload_n C.1.1 C.1.2.1 dX2_init_0 rfl (lv_at hl 0 rfl) ?_
  refine W.objInit C.1.1 C.1.2.1 C.1.2.2.2.1 (C.1.2.2.2.2 _ wz_oi2) (C.1.2.2.2.2 _ wz_ob1) (C.1.2.2.2.2 _ wz_ob2) rfl (hl.1.trans C.1.2.2.1.symm) rfl dX2_init_1 (Nat.le_of_ble_eq_true rfl) (Nat.le_of_ble_eq_true rfl) ?_
  refine lv_aload_n C.1.1 C.1.2.1 dX2_init_4 rfl (lv_at hl 0 rfl) ?_
  refine lv_bipush (v := 24) C.1.1 C.1.2.1 dX2_init_5 (by decide) ?_
  refine z_newq (j := 4) (cG := G.2.1 4) (N' := 24) C wz_cl_2_9 C.2.2.2.2.2.2.1 rfl hP hD hS hA (by decide) rfl (by decide) (Nat.le_of_ble_eq_true rfl) (Nat.le_of_ble_eq_true rfl) dX2_init_7 (fun q1 H hP hD hS => ?_)
  refine z_putF (k := 0) (fs := [.null, .int 0, .null, .int 0, .null, .null, .null, .int 0, .int 0]) (rw_ := [(q1, .inl (G.2.1 4, 24, .inr (.inr (.inr (.inr (fun _ => none))))))]) C rfl inX2 tyX2_ok nmX2 (by decide) fz_X2_11 rfl rfl rfl rfl (Nat.le_of_ble_eq_true rfl) hP hD hS dX2_init_10 (fun H locs hP hD hS => ?_)
  refine lv_aload_n C.1.1 C.1.2.1 dX2_init_13 rfl (lv_at hl 0 rfl) ?_
  refine lv_bipush (v := 121) C.1.1 C.1.2.1 dX2_init_14 (by decide) ?_
  refine z_newq (j := 5) (cG := G.2.1 5) (N' := 121) C wz_cl_2_17 C.2.2.2.2.2.2.2 rfl hP hD hS hA (by decide) rfl (by decide) (Nat.le_of_ble_eq_true rfl) (Nat.le_of_ble_eq_true rfl) dX2_init_16 (fun q2 H hP hD hS => ?_)
  refine z_putF (k := 2) (fs := [.ref q1, .int 0, .null, .int 0, .null, .null, .null, .int 0, .int 0]) (rw_ := [(q1, .inl (G.2.1 4, 24, .inr (.inr (.inr (.inr (fun _ => none)))))), (q2, .inl (G.2.1 5, 121, .inr (.inr (.inr (.inr (fun _ => none))))))]) C rfl inX2 tyX2_ok nmX2 (by decide) fz_X2_19 rfl rfl rfl rfl (Nat.le_of_ble_eq_true rfl) hP hD hS dX2_init_19 (fun H locs hP hD hS => ?_)
  refine lv_aload_n C.1.1 C.1.2.1 dX2_init_22 rfl (lv_at hl 0 rfl) ?_
  refine lv_sipush (v := 242) C.1.1 C.1.2.1 dX2_init_23 (by decide) ?_
  refine z_newa (j := 2) (cG := G.2.1 2) (N' := 242) (a0 := (242, .inr (.inl (fun _ => 0)))) C wz_ar2 rfl rfl (fun _ h => h) hP hD hS hA (fun _ => rfl) (by decide) rfl (by decide) (Nat.le_of_ble_eq_true rfl) (Nat.le_of_ble_eq_true rfl) dX2_init_26 (fun q3 H hP hD hS => ?_)
  refine z_putF (k := 4) (fs := [.ref q1, .int 0, .ref q2, .int 0, .null, .null, .null, .int 0, .int 0]) (rw_ := [(q1, .inl (G.2.1 4, 24, .inr (.inr (.inr (.inr (fun _ => none)))))), (q2, .inl (G.2.1 5, 121, .inr (.inr (.inr (.inr (fun _ => none)))))), (q3, .inl (G.2.1 2, 242, .inr (.inl (fun _ => 0))))]) C rfl inX2 tyX2_ok nmX2 (by decide) fz_X2_23 rfl rfl rfl rfl (Nat.le_of_ble_eq_true rfl) hP hD hS dX2_init_28 (fun H locs hP hD hS => ?_)
  refine lv_aload_n C.1.1 C.1.2.1 dX2_init_31 rfl (lv_at hl 0 rfl) ?_
  refine lv_sipush (v := 2880) C.1.1 C.1.2.1 dX2_init_32 (by decide) ?_
  refine z_newa (j := 1) (cG := G.2.1 1) (N' := 2880) (a0 := (2880, .inl (fun _ => 0))) C wz_ar1 rfl rfl (fun _ h => h) hP hD hS hA (fun _ => rfl) (by decide) rfl (by decide) (Nat.le_of_ble_eq_true rfl) (Nat.le_of_ble_eq_true rfl) dX2_init_35 (fun q4 H hP hD hS => ?_)
  refine z_putF (k := 5) (fs := [.ref q1, .int 0, .ref q2, .int 0, .ref q3, .null, .null, .int 0, .int 0]) (rw_ := [(q1, .inl (G.2.1 4, 24, .inr (.inr (.inr (.inr (fun _ => none)))))), (q2, .inl (G.2.1 5, 121, .inr (.inr (.inr (.inr (fun _ => none)))))), (q3, .inl (G.2.1 2, 242, .inr (.inl (fun _ => 0)))), (q4, .inl (G.2.1 1, 2880, .inl (fun _ => 0)))]) C rfl inX2 tyX2_ok nmX2 (by decide) fz_X2_27 rfl rfl rfl rfl (Nat.le_of_ble_eq_true rfl) hP hD hS dX2_init_37 (fun H locs hP hD hS => ?_)
  refine lv_aload_n C.1.1 C.1.2.1 dX2_init_40 rfl (lv_at hl 0 rfl) ?_
  refine lv_sipush (v := 2880) C.1.1 C.1.2.1 dX2_init_41 (by decide) ?_
  refine z_newa (j := 1) (cG := G.2.1 1) (N' := 2880) (a0 := (2880, .inl (fun _ => 0))) C wz_ar1 rfl rfl (fun _ h => h) hP hD hS hA (fun _ => rfl) (by decide) rfl (by decide) (Nat.le_of_ble_eq_true rfl) (Nat.le_of_ble_eq_true rfl) dX2_init_44 (fun q5 H hP hD hS => ?_)
  refine z_putF (k := 6) (fs := [.ref q1, .int 0, .ref q2, .int 0, .ref q3, .ref q4, .null, .int 0, .int 0]) (rw_ := [(q1, .inl (G.2.1 4, 24, .inr (.inr (.inr (.inr (fun _ => none)))))), (q2, .inl (G.2.1 5, 121, .inr (.inr (.inr (.inr (fun _ => none)))))), (q3, .inl (G.2.1 2, 242, .inr (.inl (fun _ => 0)))), (q4, .inl (G.2.1 1, 2880, .inl (fun _ => 0))), (q5, .inl (G.2.1 1, 2880, .inl (fun _ => 0)))]) C rfl inX2 tyX2_ok nmX2 (by decide) fz_X2_31 rfl rfl rfl rfl (Nat.le_of_ble_eq_true rfl) hP hD hS dX2_init_46 (fun H locs hP hD hS => ?_)
  refine lv_iconst (v := 0) C.1.1 C.1.2.1 dX2_init_49 (by decide) ?_
  refine lv_istore_n (lv' := [(1, .int 0), (0, .ref h0)]) C.1.1 C.1.2.1 dX2_init_50 rfl hl (by decide) rfl (fun ls hl => ?_)
  have f0 : ∀ b : Nat → Nat → Nat, (fun _ : Nat => (none : Option Nat)) = fT b 0 := fun b => by funext j; unfold fT; rw [if_neg (by omega)]
  refine W.widen (k := 5 + 6 * 0) (n := 6147 + 100 * 0) (by decide) (by decide) ?_
  have hP : va_P G.1 vwCl (F6 G h0 q1 q2 q3 q4 q5 (fun _ => none) (fun _ => none) ++ TLs G (fun _ _ => 0) 0) H := hP
  have hD : va_D A (F6 G h0 q1 q2 q3 q4 q5 (fun _ => none) (fun _ => none) ++ TLs G (fun _ _ => 0) 0) := hD
  refine fam_l1 C hA ⟨Nat.le_of_ble_eq_true rfl, Nat.le_of_ble_eq_true rfl⟩ ⟨Nat.le_of_ble_eq_true rfl, Nat.le_of_ble_eq_true rfl⟩ (fun b H locs ls hP hD hS hl => ?_) 24 0 rfl (fun _ _ => 0) H locs ls (by rw [← f0]; exact hP) (by rw [← f0]; exact hD) hS hl
  refine lv_iconst (v := 0) C.1.1 C.1.2.1 dX2_init_80 (by decide) ?_
  refine lv_istore_n (lv' := [(1, .int 0), (0, .ref h0)]) C.1.1 C.1.2.1 dX2_init_81 rfl hl (by decide) rfl (fun ls hl => ?_)
  refine W.widen (k := 149 + 3 * 0) (n := 8547 + 14 * 0) (by decide) (by decide) ?_
  refine fam_l2 (bt := b) (q1 := q1) (q2 := q2) (q3 := q3) (q4 := q4) (q5 := q5) C hA ⟨Nat.le_of_ble_eq_true rfl, Nat.le_of_ble_eq_true rfl⟩ ⟨Nat.le_of_ble_eq_true rfl, Nat.le_of_ble_eq_true rfl⟩ (fun b2 H locs ls hP hD hS => ?_) 121 0 rfl (fun _ _ => 0) H locs ls ?_ ?_ hS hl
  · subst hAe
    rw [← vX2_adF] at hP hD
    exact z_ret (ad := adF q1 q2 q3 q4 q5 b b2) (w1 := vX2 G h0) C hP hD hS dX2_init_110
  · rw [← f0]
    have : MLs G (fun _ _ => 0) 0 = [] := rfl
    rw [this, List.append_nil]; exact hP
  · rw [← f0]
    have : MLs G (fun _ _ => 0) 0 = [] := rfl
    rw [this, List.append_nil]; exact hD
