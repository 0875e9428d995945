/-! constructors: Family -/
abbrev F6 (G : GG) (h0 q1 q2 q3 q4 q5 : Nat) (tf mf : Nat → Option Nat) : va_W := [(h0, .inr (2, [.ref q1, .int 0, .ref q2, .int 0, .ref q3, .ref q4, .ref q5, .int 0, .int 0])), (q1, .inl (G.2.1 4, 24, .inr (.inr (.inr (.inr tf))))), (q2, .inl (G.2.1 5, 121, .inr (.inr (.inr (.inr mf))))), (q3, .inl (G.2.1 2, 242, .inr (.inl (fun _ => 0)))), (q4, .inl (G.2.1 1, 2880, .inl (fun _ => 0))), (q5, .inl (G.2.1 1, 2880, .inl (fun _ => 0)))]
def TLs (G : GG) (b : Nat → Nat → Nat) (i : Nat) : va_W := (List.range i).flatMap (fun j => vX6 G (b j 0) (nI j) (b j))
def MLs (G : GG) (b : Nat → Nat → Nat) (i : Nat) : va_W := (List.range i).flatMap (fun j => vX3 G (b j 0) (b j))
theorem TLs_succ (G : GG) (b : Nat → Nat → Nat) (i : Nat) : TLs G b (i + 1) = TLs G b i ++ vX6 G (b i 0) (nI i) (b i) := by
  unfold TLs
  rw [List.range_succ, List.flatMap_append]
  simp
theorem MLs_succ (G : GG) (b : Nat → Nat → Nat) (i : Nat) : MLs G b (i + 1) = MLs G b i ++ vX3 G (b i 0) (b i) := by
  unfold MLs
  rw [List.range_succ, List.flatMap_append]
  simp
theorem vX6_congr (G : GG) {a a' : Nat → Nat} (k : Int32) (h : ∀ r, r ≤ 5 → a' r = a r) : vX6 G (a' 0) k a' = vX6 G (a 0) k a := by
  unfold vX6
  rw [h 0 (by omega), h 1 (by omega), h 2 (by omega), h 3 (by omega), h 4 (by omega), h 5 (by omega)]
theorem vX3_congr (G : GG) {a a' : Nat → Nat} (h : ∀ r, r ≤ 2 → a' r = a r) : vX3 G (a' 0) a' = vX3 G (a 0) a := by
  unfold vX3
  rw [h 0 (by omega), h 1 (by omega), h 2 (by omega)]
theorem TLs_congr (G : GG) {b b' : Nat → Nat → Nat} (i : Nat) (h : ∀ j, j < i → ∀ r, r ≤ 5 → b' j r = b j r) : TLs G b' i = TLs G b i := by
  induction i with
  | zero => rfl
  | succ i ih => rw [TLs_succ, TLs_succ, ih (fun j hj => h j (by omega)), vX6_congr G _ (h i (by omega))]
theorem MLs_congr (G : GG) {b b' : Nat → Nat → Nat} (i : Nat) (h : ∀ j, j < i → ∀ r, r ≤ 2 → b' j r = b j r) : MLs G b' i = MLs G b i := by
  induction i with
  | zero => rfl
  | succ i ih => rw [MLs_succ, MLs_succ, ih (fun j hj => h j (by omega)), vX3_congr G (h i (by omega))]
theorem TLs_len (G : GG) (b : Nat → Nat → Nat) (i : Nat) : (TLs G b i).length = 6 * i := by
  induction i with
  | zero => rfl
  | succ i ih => rw [TLs_succ, List.length_append, ih]; show 6 * i + 6 = _; omega
theorem MLs_len (G : GG) (b : Nat → Nat → Nat) (i : Nat) : (MLs G b i).length = 3 * i := by
  induction i with
  | zero => rfl
  | succ i ih => rw [MLs_succ, List.length_append, ih]; show 3 * i + 3 = _; omega
def adT (b : Nat → Nat → Nat) (i q : Nat) (ad : Nat → Nat) : Nat → Nat → Nat := fun j r => if j = i then (if r = 0 then q else ad r) else b j r
def fT (b : Nat → Nat → Nat) (i : Nat) : Nat → Option Nat := fun j => if j < i then some (b j 0) else none
theorem fT_up (b : Nat → Nat → Nat) (i q : Nat) (ad : Nat → Nat) : va_up (fT b i) i (some q) = fT (adT b i q ad) (i + 1) := by
  funext j
  unfold va_up fT adT
  by_cases c : j = i
  · simp [c]
  · by_cases c2 : j < i
    · simp [c, c2, show j < i + 1 by omega]
    · simp [c, c2, show ¬ j < i + 1 by omega]
theorem TLs_ad (G : GG) (b : Nat → Nat → Nat) (i q : Nat) (ad : Nat → Nat) : TLs G (adT b i q ad) (i + 1) = TLs G b i ++ vX6 G q (nI i) ad := by
  rw [TLs_succ, TLs_congr G (b := b) i (fun j hj r _ => by unfold adT; rw [if_neg (by omega)])]
  congr 1
  have : (adT b i q ad) i 0 = q := by unfold adT; simp
  rw [this]
  unfold vX6 adT
  simp
theorem MLs_ad (G : GG) (b : Nat → Nat → Nat) (i q : Nat) (ad : Nat → Nat) : MLs G (adT b i q ad) (i + 1) = MLs G b i ++ vX3 G q ad := by
  rw [MLs_succ, MLs_congr G (b := b) i (fun j hj r _ => by unfold adT; rw [if_neg (by omega)])]
  congr 1
  have : (adT b i q ad) i 0 = q := by unfold adT; simp
  rw [this]
  unfold vX3 adT
  simp
section Fam
variable {p : Program} {l : Launch} {e : Env} {R : Room} {s : State} {m : MethodId} {args : Array Value} {below : List Frame} {meth : Method} {c : Code} {Q : State → Prop} {G : GG} {A : Nat → Prop} {h0 q1 q2 q3 q4 q5 : Nat}
set_option maxHeartbeats 4000000 in
set_option maxRecDepth 100000 in
theorem fam_l1 (C : Cz p s m args meth c G RX2 cX2_init 2) (hA : ∀ q, s.heap.size ≤ q → A q) (hRf : 2 ≤ R.frames ∧ 35 ≤ R.locals) (hRc : 149 ≤ R.cells ∧ 8547 ≤ R.slots)
    (kk : ∀ (b : Nat → Nat → Nat) (H : Heap) (locs : List Loc) (ls : Array Slot), va_P G.1 vwCl (F6 G h0 q1 q2 q3 q4 q5 (fT b 24) (fun _ => none) ++ TLs G b 24) H → va_D A (F6 G h0 q1 q2 q3 q4 q5 (fT b 24) (fun _ => none) ++ TLs G b 24) → va_S A s.heap H locs → lv_has ls 2 [(0, .ref h0)] → W p l e R s m args below meth c H locs 149 8547 Q (F0 m 80 ls []))
    (k : Nat) : ∀ (i : Nat), i + k = 24 → ∀ (b : Nat → Nat → Nat) (H : Heap) (locs : List Loc) (ls : Array Slot), va_P G.1 vwCl (F6 G h0 q1 q2 q3 q4 q5 (fT b i) (fun _ => none) ++ TLs G b i) H → va_D A (F6 G h0 q1 q2 q3 q4 q5 (fT b i) (fun _ => none) ++ TLs G b i) → va_S A s.heap H locs → lv_has ls 2 [(1, .int (nI i)), (0, .ref h0)] → W p l e R s m args below meth c H locs (5 + 6 * i) (6147 + 100 * i) Q (F0 m 51 ls []) := by
  induction k with
  | zero =>
    intro i hi b H locs ls hP hD hS hl
    have hi : i = 24 := by omega
    subst hi
    refine lv_iload_n C.1.1 C.1.2.1 dX2_init_51 rfl (lv_at hl 0 rfl) ?_
    refine lv_aload_n C.1.1 C.1.2.1 dX2_init_52 rfl (lv_at hl 1 rfl) ?_
    refine z_get C fl_X2_11 hP 0 rfl rfl dX2_init_53 ?_
    refine va_alen C.1.1 C.1.2.1 C.2.2.2.2.1 hP 1 4 rfl rfl (v := nI 24) rfl dX2_init_56 ?_
    refine lv_icmp_ge (tgt := 80) C.1.1 C.1.2.1 dX2_init_57 (by decide) (fun _ => ?_) (fun z => absurd (nI_le (Nat.le_refl 24) (by decide)) z)
    exact kk b H locs ls hP hD hS (lv_sub hl [1] rfl)
  | succ k ih =>
    intro i hi b H locs ls hP hD hS hl
    refine lv_iload_n C.1.1 C.1.2.1 dX2_init_51 rfl (lv_at hl 0 rfl) ?_
    refine lv_aload_n C.1.1 C.1.2.1 dX2_init_52 rfl (lv_at hl 1 rfl) ?_
    refine z_get C fl_X2_11 hP 0 rfl rfl dX2_init_53 ?_
    refine va_alen C.1.1 C.1.2.1 C.2.2.2.2.1 hP 1 4 rfl rfl (v := nI 24) rfl dX2_init_56 ?_
    refine lv_icmp_ge (tgt := 80) C.1.1 C.1.2.1 dX2_init_57 (by decide) (fun z => absurd z (nI_ge (by omega) (by decide))) (fun _ => ?_)
    refine lv_aload_n C.1.1 C.1.2.1 dX2_init_60 rfl (lv_at hl 1 rfl) ?_
    refine z_get C fl_X2_11 hP 0 rfl rfl dX2_init_61 ?_
    refine lv_iload_n C.1.1 C.1.2.1 dX2_init_64 rfl (lv_at hl 0 rfl) ?_
    refine va_new (ci := 6) (fs := dX6) (C := RX6) (T := TX6) (N := 20) C.1.1 C.1.2.1 C.1.2.2.2.2 inX6 tyX6 tyX6_ok C.1.2.2.2.1 (C.1.2.2.2.2 _ wz_cl_2_9) (C.1.2.2.2.2 _ wz_in6) (C.1.2.2.2.2 _ wq_X6) C.2.2.2.2.1 hP hD hS hA rfl (by decide) (by omega) (by omega) dX2_init_65 (fun q H hP hD hS => ?_)
    refine lv_dup C.1.1 C.1.2.1 dX2_init_68 rfl ?_
    refine lv_iload_n C.1.1 C.1.2.1 dX2_init_69 rfl (lv_at hl 0 rfl) ?_
    have hdc : va_D (fun _ => True) ([(q, .inr (6, dX6))] ++ ([] : va_W)) := ⟨fun i j p q hi hj _ => by
      have := (List.getElem?_eq_some_iff.mp hi).1
      have := (List.getElem?_eq_some_iff.mp hj).1
      simp at *
      omega, fun _ _ _ => trivial⟩
    refine z_callI (As := [.int (nI i)]) (rest := [.ref q, .int (nI i), .ref q1]) (wr := F6 G h0 q1 q2 q3 q4 q5 (fT b i) (fun _ => none) ++ TLs G b i) (wc := [(q, .inr (6, dX6))]) (wro := []) C (z_X6 l G q H.size (nI i)) wz_ml_2_34 wz_ii6 wz_cd6 wq_X6 rfl wz_dd6 ⟨by omega, by omega⟩ hl.1 rfl rfl (Nat.le_of_ble_eq_true rfl) ⟨by omega, by omega⟩ hP hD hS hA (fun k q hk => by simp at hk) hdc dX2_init_70 (fun ad H locs hP hD hS => ?_)
    have hv : (F6 G h0 q1 q2 q3 q4 q5 (fT b i) (fun _ => none) ++ TLs G b i ++ vX6 G q (nI i) ad)[6 + 6 * i]? = some (q, .inr (6, [.int (nI i), .long 0, .int 0, .int 0, .int 0, .int 0, .int 0, .ref (ad 1), .ref (ad 2), .int 0, .ref (ad 3), .int 0, .int 0, .ref (ad 4), .int 0, .ref (ad 5), .int 0, .int 0, .int 0, .int 0])) := by
      rw [List.getElem?_append_right (by rw [List.length_append, TLs_len]; show 6 + 6 * i ≤ _; omega)]
      rw [List.length_append, TLs_len]
      show (vX6 G q (nI i) ad)[6 + 6 * i - (6 + 6 * i)]? = _
      rw [Nat.sub_self]
      rfl
    refine va_astq C.1.1 C.1.2.1 C.2.2.2.2.1 hP hD hS 1 4 (6 + 6 * i) 6 rfl rfl hv rfl (vp_in_nI (by omega) (by decide)) dX2_init_73 (fun H locs hP hD hS => ?_)
    rw [nI_clamp (by omega)] at hP hD
    have hP : va_P G.1 vwCl (F6 G h0 q1 q2 q3 q4 q5 (va_up (fT b i) i (some q)) (fun _ => none) ++ TLs G b i ++ vX6 G q (nI i) ad) H := hP
    have hD : va_D A (F6 G h0 q1 q2 q3 q4 q5 (va_up (fT b i) i (some q)) (fun _ => none) ++ TLs G b i ++ vX6 G q (nI i) ad) := hD
    rw [fT_up b i q ad, List.append_assoc, ← TLs_ad] at hP hD
    refine lv_iinc (v := nI (i + 1)) (lv' := [(1, .int (nI (i + 1))), (0, .ref h0)]) C.1.1 C.1.2.1 dX2_init_74 hl (k := 0) rfl (by rw [nI_succ]; rfl) (by decide) rfl (fun ls hl => ?_)
    refine lv_goto (tgt := 51) C.1.1 C.1.2.1 dX2_init_77 (by decide) ?_
    refine W.widen (k := 5 + 6 * (i + 1)) (n := 6147 + 100 * (i + 1)) (by omega) (by omega) ?_
    exact ih (i + 1) (by omega) (adT b i q ad) H locs ls hP hD hS hl
end Fam
