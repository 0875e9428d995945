/-! rows of fields and arrays over the world -/
/-- the cell i is an object of class ci, an array of kind kk and length n; the model's cell a -/
def OC (inj : St → St) (i : Nat) (a : Int) (ci : Nat) : Prop := i < NN ∧ kd i = ci ∧ Vw inj i a
def AC (inj : St → St) (i : Nat) (a : Int) (kk : Nat) (n : Int) : Prop := i < NN ∧ kd i = kk ∧ (ln i : Int) = n ∧ Vw inj i a
theorem nat_of {i : Nat} {x : Int32} {X : Int} (hx : x.toInt = X) (h : 0 ≤ X ∧ X < i) : vp_in x i ∧ (x.toNatClampNeg : Int) = X := by
  refine ⟨vp_in_iff.mpr (by rw [hx]; exact h), ?_⟩
  have : x.toNatClampNeg = x.toInt.toNat := rfl
  rw [this, hx]
  omega
theorem vp_nar_bool01 {x : Int32} {X : Int} (hx : x.toInt = X) (h : X = 0 ∨ X = 1) : narrow .boolean (.int x) = .int x := by
  rcases h with rfl | rfl
  · have : x = 0 := (ti_eq hx (by decide : (0 : Int32).toInt = 0)).mpr rfl
    subst this; rfl
  · have : x = 1 := (ti_eq hx (by decide : (1 : Int32).toInt = 1)).mpr rfl
    subst this; rfl
section Mem
variable {p : Program} {l : Launch} {e : Env} {R : Room} {s : State} {m : MethodId} {args : Array Value} {below : List Frame} {meth : Method} {c : Code} {H : Heap} {locs : List Loc} {cells slots : Nat} {Q : State → Prop} {cc : ByteArray} {pc : Nat} {ls : Array Slot} {rest : List Value} {G : GG} {own : String} {nL : Nat} {rt : Option FieldType} {inj : St → St} {S : St} {i : Nat} {a : Int}
/-- what a row of a field needs: the class's table, the field's place, its link (own or a nest mate's) -/
def FL (own : String) (index ci k : Nat) (Cn : String) (T : u_T) (N : Nat) : Prop :=
  vwCl[ci]? = some (Cn, T, N) ∧ k < N ∧ N = nfd ci ∧ ci < 20 ∧ (∀ w ∈ u_ws Cn T N, w ∈ wT) ∧ (Cond.fieldLink own index (T k).1 (T k).2.1 (T k).2.2.1 ∈ wT ∨ ∃ host, Cond.fieldLinkNest own index (T k).1 (T k).2.1 (T k).2.2.1 host ∈ wN)
theorem x_get (C : Cx p s m args meth c G own cc nL rt) {index ci k N : Nat} {Cn : String} {T : u_T} (F : FL own index ci k Cn T N) (hW : Wd G S H) (hi : i < NN) (hk : kd i = ci) (hdg : decode cc pc = .ok (.getfield index, 3))
    (kk : W p l e R s m args below meth c H locs cells slots Q (F0 m (pc + 3) ls (fv G S ci i k :: rest))) : W p l e R s m args below meth c H locs cells slots Q (F0 m pc ls (.ref (G.2.2 i) :: rest)) := by
  obtain ⟨⟨hx, hb, hml, hown, hts⟩, hr, hlk, ⟨hK, hN⟩, hG, hZ⟩ := C
  obtain ⟨h1, h2, h3, h4, h5, h6⟩ := F
  have he := wl_get G S hi
  rw [cel_o hk h4] at he
  have hv : ((List.range (nfd ci)).map (fv G S ci i))[k]? = some (fv G S ci i k) := by
    rw [← h3]
    simp [h2]
  rcases h6 with h6 | ⟨host, h6⟩
  · exact va_get hx hb hts h5 hown hK hW.2 i he h1 k h2 (hts _ h6) (fun _ h => h) hv hdg kk
  · exact va_getN hx hb hts h5 hown hK hW.2 i he h1 k h2 (va_Nw.use rfl (hN _ h6)) (fun _ h => h) hv hdg kk
theorem y_getI (C : Cx p s m args meth c G own cc nL rt) {index ci k N : Nat} {Cn : String} {T : u_T} (F : FL own index ci k Cn T N) (hW : Wd G (inj S) H) (O : OC inj i a ci) (hf : fkd ci k = 0) (hdg : decode cc pc = .ok (.getfield index, 3))
    (kk : ∀ v : Int32, v.toInt = S a k → W p l e R s m args below meth c H locs cells slots Q (F0 m (pc + 3) ls (.int v :: rest))) : W p l e R s m args below meth c H locs cells slots Q (F0 m pc ls (.ref (G.2.2 i) :: rest)) := by
  obtain ⟨hi, hk, hv⟩ := O
  refine x_get C F hW hi hk hdg ?_
  have e1 : fv G (inj S) ci i k = .int (i32 (inj S i k)) := by simp only [fv, hf]
  rw [e1]
  have hr := (hW.1 i k).1 (by simp only [slt, hk, F.2.2.2.1, if_true, hf])
  refine kk _ ?_
  rw [i32_toInt hr, hv.1]
theorem y_getJ (C : Cx p s m args meth c G own cc nL rt) {index ci k N : Nat} {Cn : String} {T : u_T} (F : FL own index ci k Cn T N) (hW : Wd G (inj S) H) (O : OC inj i a ci) (hf : fkd ci k = 1) (hdg : decode cc pc = .ok (.getfield index, 3))
    (kk : ∀ v : Int64, v.toInt = S a k → W p l e R s m args below meth c H locs cells slots Q (F0 m (pc + 3) ls (.long v :: rest))) : W p l e R s m args below meth c H locs cells slots Q (F0 m pc ls (.ref (G.2.2 i) :: rest)) := by
  obtain ⟨hi, hk, hv⟩ := O
  refine x_get C F hW hi hk hdg ?_
  have e1 : fv G (inj S) ci i k = .long (i64 (inj S i k)) := by simp only [fv, hf]
  rw [e1]
  have hr := (hW.1 i k).2 (by simp only [slt, hk, F.2.2.2.1, if_true, hf])
  refine kk _ ?_
  rw [i64_toInt hr, hv.1]
theorem y_getA (C : Cx p s m args meth c G own cc nL rt) {index ci k N : Nat} {Cn : String} {T : u_T} (F : FL own index ci k Cn T N) (hW : Wd G (inj S) H) (O : OC inj i a ci) (hf : fkd ci k = 2) {o : Nat} (hof : fof ci k = o) (hdg : decode cc pc = .ok (.getfield index, 3))
    (kk : W p l e R s m args below meth c H locs cells slots Q (F0 m (pc + 3) ls (.ref (G.2.2 (i + o)) :: rest))) : W p l e R s m args below meth c H locs cells slots Q (F0 m pc ls (.ref (G.2.2 i) :: rest)) := by
  obtain ⟨hi, hk, hv⟩ := O
  refine x_get C F hW hi hk hdg ?_
  have e1 : fv G (inj S) ci i k = .ref (G.2.2 (i + o)) := by simp only [fv, hf, hof]
  rw [e1]
  exact kk
theorem y_getR (C : Cx p s m args meth c G own cc nL rt) {index ci k N : Nat} {Cn : String} {T : u_T} (F : FL own index ci k Cn T N) (hW : Wd G (inj S) H) (O : OC inj i a ci) (hf : fkd ci k = 3) (h0 : 0 ≤ S a k) (hdg : decode cc pc = .ok (.getfield index, 3))
    (kk : W p l e R s m args below meth c H locs cells slots Q (F0 m (pc + 3) ls (.ref (G.2.2 (S a k).toNat) :: rest))) : W p l e R s m args below meth c H locs cells slots Q (F0 m pc ls (.ref (G.2.2 i) :: rest)) := by
  obtain ⟨hi, hk, hv⟩ := O
  refine x_get C F hW hi hk hdg ?_
  have e1 : fv G (inj S) ci i k = .ref (G.2.2 (S a k).toNat) := by
    simp only [fv, hf, rv, hv.1]
    rw [if_neg (by omega)]
  rw [e1]
  exact kk
theorem y_getS (C : Cx p s m args meth c G own cc nL rt) {index ci k N : Nat} {Cn : String} {T : u_T} (F : FL own index ci k Cn T N) (hW : Wd G (inj S) H) (O : OC inj i a ci) (hf : fkd ci k = 4) {o : Nat} (hof : srf ci k = o) (hdg : decode cc pc = .ok (.getfield index, 3))
    (kk : W p l e R s m args below meth c H locs cells slots Q (F0 m (pc + 3) ls (.ref (G.2.2 o) :: rest))) : W p l e R s m args below meth c H locs cells slots Q (F0 m pc ls (.ref (G.2.2 i) :: rest)) := by
  obtain ⟨hi, hk, hv⟩ := O
  refine x_get C F hW hi hk hdg ?_
  have e1 : fv G (inj S) ci i k = .ref (G.2.2 o) := by simp only [fv, hf, hof]
  rw [e1]
  exact kk
/-- what a row of a field's store needs besides -/
def FP (ci k : Nat) (T : u_T) (N : Nat) (ty0 : Nat → FieldType) (ty : FieldType) : Prop :=
  (∀ k, k < N → parseFieldDescriptor (T k).2.2.1 = some (ty0 k)) ∧ (∀ a, a < N → ∀ b, b < N → a ≠ b → (T a).2.1 ≠ (T b).2.1) ∧ (T k).2.2.2 = false ∧ parseFieldDescriptor (T k).2.2.1 = some ty
theorem x_put (C : Cx p s m args meth c G own cc nL rt) {index ci k N : Nat} {Cn : String} {T : u_T} {ty0 : Nat → FieldType} {ty : FieldType} (F : FL own index ci k Cn T N) (P : FP ci k T N ty0 ty) {S' : St} (hW : Wd G S H) (hS : va_S (AG G) s.heap H locs) (hi : i < NN) (hk : kd i = ci) {x : Value} (hn : narrow ty x = x) (hfit : fits ty x = true)
    (hr' : rng S') (hx' : fv G S' ci i k = x) (ho : ∀ k', k' ≠ k → fv G S' ci i k' = fv G S ci i k') (ho2 : ∀ j, j < NN → j ≠ i → cel G S' j = cel G S j) (hdg : decode cc pc = .ok (.putfield index, 3))
    (kk : ∀ (H1 : Heap) (locs1 : List Loc), Wd G S' H1 → va_S (AG G) s.heap H1 locs1 → W p l e R s m args below meth c H1 locs1 cells slots Q (F0 m (pc + 3) ls rest)) : W p l e R s m args below meth c H locs cells slots Q (F0 m pc ls (x :: .ref (G.2.2 i) :: rest)) := by
  obtain ⟨⟨hx, hb, hml, hown, hts⟩, hr, hlk, ⟨hK, hN⟩, hG, hZ⟩ := C
  obtain ⟨h1, h2, h3, h4, h5, h6⟩ := F
  obtain ⟨p1, p2, p3, p4⟩ := P
  have he := wl_get G S hi
  rw [cel_o hk h4] at he
  have hset : ((List.range (nfd ci)).map (fv G S ci i)).set k x = (List.range (nfd ci)).map (fv G S' ci i) := by
    apply List.ext_getElem?
    intro j
    rw [List.getElem?_set]
    split
    · rename_i h
      subst h
      rw [← h3]
      simp [h2, hx']
    · rename_i h
      by_cases hj : j < nfd ci
      · simp [hj, ho j (fun h9 => h h9.symm)]
      · simp [hj]
  have hws : (wl G S).set i (G.2.2 i, .inr (ci, ((List.range (nfd ci)).map (fv G S ci i)).set k x)) = wl G S' := by
    refine wl_set G S S' _ ?_ ho2
    rw [cel_o hk h4, hset]
  have hlen : k < ((List.range (nfd ci)).map (fv G S ci i)).length := by simp; omega
  rcases h6 with h6 | ⟨host, h6⟩
  · refine va_put hx hb hts h5 ty0 p1 p2 hown hK hW.2 (wl_D hG S) hS i he h1 k h2 (hts _ h6) (fun _ h => h) p3 p4 hn hfit hlen hdg (fun H1 locs1 hP1 hD1 hS1 => ?_)
    rw [hws] at hP1
    exact kk H1 locs1 ⟨hr', hP1⟩ hS1
  · refine va_putN hx hb hts h5 ty0 p1 p2 hown hK hW.2 (wl_D hG S) hS i he h1 k h2 (va_Nw.use rfl (hN _ h6)) (fun _ h => h) p3 p4 hn hfit hlen hdg (fun H1 locs1 hP1 hD1 hS1 => ?_)
    rw [hws] at hP1
    exact kk H1 locs1 ⟨hr', hP1⟩ hS1
theorem fv_up_ne {G : GG} {S : St} {ci i k k' : Nat} {v : Int} (h : k' ≠ k) : fv G (up S i k v) ci i k' = fv G S ci i k' := by
  have e : up S i k v i k' = S i k' := up_n S (fun hh => h (Int.ofNat.inj hh.2))
  simp only [fv, e]
theorem y_putI (C : Cx p s m args meth c G own cc nL rt) {index ci k N : Nat} {Cn : String} {T : u_T} {ty0 : Nat → FieldType} (F : FL own index ci k Cn T N) (P : FP ci k T N ty0 .int) (hW : Wd G (inj S) H) (hS : va_S (AG G) s.heap H locs) (O : OC inj i a ci) (hf : fkd ci k = 0) {x : Int32} {X : Int} (hx : x.toInt = X) (hdg : decode cc pc = .ok (.putfield index, 3))
    (kk : ∀ (H1 : Heap) (locs1 : List Loc), Wd G (inj (up S a k X)) H1 → va_S (AG G) s.heap H1 locs1 → W p l e R s m args below meth c H1 locs1 cells slots Q (F0 m (pc + 3) ls rest)) : W p l e R s m args below meth c H locs cells slots Q (F0 m pc ls (.int x :: .ref (G.2.2 i) :: rest)) := by
  obtain ⟨hi, hk, hv⟩ := O
  refine x_put C F P (S' := inj (up S a k X)) hW hS hi hk rfl rfl ?_ ?_ ?_ ?_ hdg kk
  · rw [hv.2]
    exact rng_up hW.1 (fun _ => by rw [← hx]; exact in32_toInt x) (fun h => by simp only [slt, hk, F.2.2.2.1, if_true, hf] at h; cases h)
  · rw [hv.2]
    simp only [fv, hf, up_s]
    rw [← hx, i32_of]
  · intro k' h; rw [hv.2]; exact fv_up_ne h
  · intro j _ h; rw [hv.2]; exact cel_up_ne (cast_ne h)
theorem y_putZ (C : Cx p s m args meth c G own cc nL rt) {index ci k N : Nat} {Cn : String} {T : u_T} {ty0 : Nat → FieldType} (F : FL own index ci k Cn T N) (P : FP ci k T N ty0 .boolean) (hW : Wd G (inj S) H) (hS : va_S (AG G) s.heap H locs) (O : OC inj i a ci) (hf : fkd ci k = 0) {x : Int32} {X : Int} (hx : x.toInt = X) (h01 : X = 0 ∨ X = 1) (hdg : decode cc pc = .ok (.putfield index, 3))
    (kk : ∀ (H1 : Heap) (locs1 : List Loc), Wd G (inj (up S a k X)) H1 → va_S (AG G) s.heap H1 locs1 → W p l e R s m args below meth c H1 locs1 cells slots Q (F0 m (pc + 3) ls rest)) : W p l e R s m args below meth c H locs cells slots Q (F0 m pc ls (.int x :: .ref (G.2.2 i) :: rest)) := by
  obtain ⟨hi, hk, hv⟩ := O
  have hfit : fits .boolean (.int x) = true := by
    rcases h01 with rfl | rfl
    · have : x = 0 := (ti_eq hx (by decide : (0 : Int32).toInt = 0)).mpr rfl
      subst this; rfl
    · have : x = 1 := (ti_eq hx (by decide : (1 : Int32).toInt = 1)).mpr rfl
      subst this; rfl
  refine x_put C F P (S' := inj (up S a k X)) hW hS hi hk (vp_nar_bool01 hx h01) hfit ?_ ?_ ?_ ?_ hdg kk
  · rw [hv.2]
    exact rng_up hW.1 (fun _ => by rw [← hx]; exact in32_toInt x) (fun h => by simp only [slt, hk, F.2.2.2.1, if_true, hf] at h; cases h)
  · rw [hv.2]
    simp only [fv, hf, up_s]
    rw [← hx, i32_of]
  · intro k' h; rw [hv.2]; exact fv_up_ne h
  · intro j _ h; rw [hv.2]; exact cel_up_ne (cast_ne h)
theorem y_putJ (C : Cx p s m args meth c G own cc nL rt) {index ci k N : Nat} {Cn : String} {T : u_T} {ty0 : Nat → FieldType} (F : FL own index ci k Cn T N) (P : FP ci k T N ty0 .long) (hW : Wd G (inj S) H) (hS : va_S (AG G) s.heap H locs) (O : OC inj i a ci) (hf : fkd ci k = 1) {x : Int64} {X : Int} (hx : x.toInt = X) (hdg : decode cc pc = .ok (.putfield index, 3))
    (kk : ∀ (H1 : Heap) (locs1 : List Loc), Wd G (inj (up S a k X)) H1 → va_S (AG G) s.heap H1 locs1 → W p l e R s m args below meth c H1 locs1 cells slots Q (F0 m (pc + 3) ls rest)) : W p l e R s m args below meth c H locs cells slots Q (F0 m pc ls (.long x :: .ref (G.2.2 i) :: rest)) := by
  obtain ⟨hi, hk, hv⟩ := O
  refine x_put C F P (S' := inj (up S a k X)) hW hS hi hk rfl rfl ?_ ?_ ?_ ?_ hdg kk
  · rw [hv.2]
    exact rng_up hW.1 (fun h => by simp only [slt, hk, F.2.2.2.1, if_true, hf] at h; cases h) (fun _ => by rw [← hx]; exact in64_toInt x)
  · rw [hv.2]
    simp only [fv, hf, up_s]
    rw [← hx, i64_of]
  · intro k' h; rw [hv.2]; exact fv_up_ne h
  · intro j _ h; rw [hv.2]; exact cel_up_ne (cast_ne h)
theorem y_putR (C : Cx p s m args meth c G own cc nL rt) {index ci k N : Nat} {Cn : String} {T : u_T} {ty0 : Nat → FieldType} {o : String} (F : FL own index ci k Cn T N) (P : FP ci k T N ty0 (.object o)) (hW : Wd G (inj S) H) (hS : va_S (AG G) s.heap H locs) (O : OC inj i a ci) (hf : fkd ci k = 3) {X : Int} (h0 : 0 ≤ X) (hdg : decode cc pc = .ok (.putfield index, 3))
    (kk : ∀ (H1 : Heap) (locs1 : List Loc), Wd G (inj (up S a k X)) H1 → va_S (AG G) s.heap H1 locs1 → W p l e R s m args below meth c H1 locs1 cells slots Q (F0 m (pc + 3) ls rest)) : W p l e R s m args below meth c H locs cells slots Q (F0 m pc ls (.ref (G.2.2 X.toNat) :: .ref (G.2.2 i) :: rest)) := by
  obtain ⟨hi, hk, hv⟩ := O
  refine x_put C F P (S' := inj (up S a k X)) hW hS hi hk rfl rfl ?_ ?_ ?_ ?_ hdg kk
  · rw [hv.2]
    exact rng_up hW.1 (fun h => by simp only [slt, hk, F.2.2.2.1, if_true, hf] at h; cases h) (fun h => by simp only [slt, hk, F.2.2.2.1, if_true, hf] at h; cases h)
  · rw [hv.2]
    simp only [fv, hf, up_s, rv]
    rw [if_neg (by omega)]
  · intro k' h; rw [hv.2]; exact fv_up_ne h
  · intro j _ h; rw [hv.2]; exact cel_up_ne (cast_ne h)
end Mem
