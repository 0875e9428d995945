/-! constructors: worlds that grow -/
def AO2 (U : State) : Prop := va_AO "CallCourt$Type" U ∧ va_AO "CallCourt$Member" U
def KV (G : GG) (U : State) : Prop := va_K G.1 vwCl (tysG G) U ∧ NwU U ∧ AO2 U
def Cz (p : Program) (s : State) (m : MethodId) (args : Array Value) (meth : Method) (c : Code) (G : GG) (own : String) (cc : ByteArray) (nL : Nat) : Prop :=
  (p.tables.exec = Jvm.exec ∧ c.code = cc ∧ c.maxLocals = nL ∧ s.vm.findClass own = some m.cls ∧ ∀ w ∈ wT, w.before args s = true) ∧ meth.sig.returnType = none ∧ meth.locks = false ∧ meth.name = "<init>" ∧ KV G s
def PcZ (G : GG) (avs : List Value) (sz : Nat) (w0 wro : va_W) : Array Value → State → Prop := va_Pc avs (fun U => U.heap.size = sz ∧ va_P G.1 vwCl (w0 ++ wro) U.heap ∧ KV G U ∧ va_D (fun _ => True) (w0 ++ wro))
def QcZ (G : GG) (sz : Nat) (w0 : va_W) (w1 : (Nat → Nat) → va_W) : Array Value → State → Outcome → State → Prop := va_Qv (fun _ : Nat → Nat => True) (fun ad t => va_P G.1 vwCl (w1 ad) t.heap ∧ va_D (va_A w0 sz) (w1 ad)) (va_A w0 sz)
def CnZ (l : Launch) (y : MethodName) (cc : ByteArray) (nL f q mc ms : Nat) (G : GG) (avs : List Value) (sz : Nat) (w0 wro : va_W) (w1 : (Nat → Nat) → va_W) : Prop :=
  Met l y (.code y cc nL none :: wT) { frames := f, cells := mc, slots := ms, locals := q } (PcZ G avs sz w0 wro) (QcZ G sz w0 w1) mc ms (va_A w0 sz)
theorem cz_body {l : Launch} {y : MethodName} {cc : ByteArray} {nL f q mc ms : Nat} {G : GG} {avs : List Value} {sz : Nat} {w0 wro : va_W} {w1 : (Nat → Nat) → va_W} (hy : plainName y.cls = true) (hi : y.name = "<init>") (hn : (lg_sl avs).length ≤ nL)
    (body : ∀ (p : Program) (e : Env) (s : State) (m : MethodId) (args : Array Value) (below : List Frame) (meth : Method) (c : Code) (ls : Array Slot), Cz p s m args meth c G y.cls cc nL → s.heap.size = sz → va_P G.1 vwCl (w0 ++ wro) s.heap → va_D (fun _ => True) (w0 ++ wro) → lv_has ls nL (lv_args 0 avs) →
      W p l e { frames := f, cells := mc, slots := ms, locals := q } s m args below meth c s.heap [] 0 0 (MQ below (QcZ G sz w0 w1) args s mc ms (va_A w0 sz)) (F0 m 0 ls [])) :
    CnZ l y cc nL f q mc ms G avs sz w0 wro w1 := by
  refine Met.ofW (cc := cc) (maxL := nL) (ret := none) hy rfl ?_
  intro p e s m args below meth c s₁ B hml hv
  obtain ⟨rfl, hsz, hP, hKU, hD⟩ := hv
  have hts := atoms_spec (ws := .code y cc nL none :: wT) B.pre
  have hown : s.vm.findClass y.cls = some m.cls := findClass_of_methodNamed B.named
  have hin : meth.name = "<init>" := (name_of_methodNamed B.named B.method).1.trans hi
  rw [lg_entry_eq]
  exact body p e s m _ below meth c _ ⟨⟨B.exec, B.bytes, hml, hown, fun w h => hts w (List.mem_cons_of_mem _ h)⟩, B.returns, B.notSynchronized, hin, hKU⟩ hsz hP hD (lv_entry avs hn)
theorem vP_left {D : va_G} {w1 w2 : va_W} {H : Heap} (h : va_P D vwCl (w1 ++ w2) H) : va_P D vwCl w1 H := fun k q hk => h k q (by rw [List.getElem?_append_left (List.getElem?_eq_some_iff.mp hk).1]; exact hk)
theorem vP_right {D : va_G} {w1 w2 : va_W} {H : Heap} (h : va_P D vwCl (w1 ++ w2) H) : va_P D vwCl w2 H := fun k q hk => h (w1.length + k) q (by rw [List.getElem?_append_right (by omega), show w1.length + k - w1.length = k by omega]; exact hk)
theorem vD_left {A : Nat → Prop} {w1 w2 : va_W} (h : va_D A (w1 ++ w2)) : va_D A w1 := ⟨fun i j p q hi hj e => h.1 i j p q (by rw [List.getElem?_append_left (List.getElem?_eq_some_iff.mp hi).1]; exact hi) (by rw [List.getElem?_append_left (List.getElem?_eq_some_iff.mp hj).1]; exact hj) e, fun k q hk => h.2 k q (by rw [List.getElem?_append_left (List.getElem?_eq_some_iff.mp hk).1]; exact hk)⟩
/-- what is only read stays -/
theorem ro_kept {D : va_G} {w0 wro : va_W} {H0 H : Heap} {locs : List Loc} (hP : va_P D vwCl (w0 ++ wro) H0) (hD : va_D (fun _ => True) (w0 ++ wro)) (hS : va_S (va_A w0 H0.size) H0 H locs) : va_P D vwCl wro H := by
  intro k q hk
  have hk' : (w0 ++ wro)[w0.length + k]? = some q := by rw [List.getElem?_append_right (by omega), show w0.length + k - w0.length = k by omega]; exact hk
  have h := hP _ q hk'
  refine h.kept (hS.2.1 q.1 h.lt (fun z => ?_))
  rcases z with ⟨j, e, hj⟩ | z
  · have hj' : (w0 ++ wro)[j]? = some (q.1, e) := by rw [List.getElem?_append_left (List.getElem?_eq_some_iff.mp hj).1]; exact hj
    have := hD.1 _ _ _ _ hk' hj' rfl
    have jl := (List.getElem?_eq_some_iff.mp hj).1
    omega
  · have := h.lt
    omega
/-- behind a constructor's call: what it was given is replaced by what it made -/
theorem jn {A0 : Nat → Prop} {D : va_G} {wr wc w1 : va_W} {H H1 : Heap} (hP : va_P D vwCl (wr ++ wc) H) (hD : va_D A0 (wr ++ wc)) (hk : ∀ q : Nat, q < H.size → ¬ va_A wc H.size q → H1[q]? = H[q]?) (hF : ∀ q, va_A wc H.size q → A0 q) (hP1 : va_P D vwCl w1 H1) (hD1 : va_D (va_A wc H.size) w1) : va_P D vwCl (wr ++ w1) H1 ∧ va_D A0 (wr ++ w1) := by
  have apart : ∀ (k : Nat) (q : Nat × va_E), wr[k]? = some q → q.1 < H.size ∧ ¬ va_A wc H.size q.1 := by
    intro k q hq
    have hq' : (wr ++ wc)[k]? = some q := by rw [List.getElem?_append_left (List.getElem?_eq_some_iff.mp hq).1]; exact hq
    have hl := (hP k q hq').lt
    refine ⟨hl, fun h => ?_⟩
    rcases h with ⟨k2, e, h⟩ | h
    · have h' : (wr ++ wc)[wr.length + k2]? = some (q.1, e) := by rw [List.getElem?_append_right (by omega), show wr.length + k2 - wr.length = k2 by omega]; exact h
      have hij := hD.1 _ _ _ _ hq' h' rfl
      have := (List.getElem?_eq_some_iff.mp hq).1
      omega
    · omega
  refine ⟨va_P.app (fun k q hq => ?_) hP1, va_D.app (vD_left hD) (hD1.weaken (fun k q _ h => hF q.1 h)) (fun i j x y hx hy hxy => ?_)⟩
  · obtain ⟨g1, g2⟩ := apart k q hq
    exact (vP_left hP k q hq).kept (hk q.1 g1 g2)
  · exact (apart i x hx).2 (by rw [hxy]; exact hD1.2 j y hy)
section ZRows
variable {p : Program} {l : Launch} {e : Env} {R : Room} {s : State} {m : MethodId} {args : Array Value} {below : List Frame} {meth : Method} {c : Code} {H : Heap} {locs : List Loc} {cells slots : Nat} {Q : State → Prop} {cc : ByteArray} {pc : Nat} {ls : Array Slot} {rest : List Value} {G : GG} {own : String} {nL : Nat} {A : Nat → Prop} {ws : va_W}
theorem z_newa (C : Cz p s m args meth c G own cc nL) {atype : ArrayType} {ty : FieldType} (harr : Cond.arrayClass ty ∈ wT) (hty : newarray.typeOf atype = ty) {j : Nat} {cG : ClassId} (ht : (tysG G)[j]? = some (cG, ty)) (hpr : ∀ x, va_RA s x ty → s.vm.findClass ("[" ++ ty.toString) = some x) (hP : va_P G.1 vwCl ws H) (hD : va_D A ws) (hS : va_S A s.heap H locs) (hA : ∀ q, s.heap.size ≤ q → A q)
    {n : Int32} {N' : Nat} {a0 : vp_A} (ha : ∀ cA : ClassId, vp_cell cA a0 = arrV cA N' (fun _ => defaultValue ty)) (hn : ¬ n < 0) (hN : n.toNatClampNeg = N') (hbytes : N' * componentBytes ty ≤ 536870912) (hcells : cells + 1 ≤ R.cells) (hslots : slots + N' ≤ R.slots) (hdg : decode cc pc = .ok (.newarray atype, 2))
    (kk : ∀ (q : Nat) (H1 : Heap), va_P G.1 vwCl (ws ++ [(q, .inl (cG, a0))]) H1 → va_D A (ws ++ [(q, .inl (cG, a0))]) → va_S A s.heap H1 locs → W p l e R s m args below meth c H1 locs (cells + 1) (slots + N') Q (F0 m (pc + 2) ls (.ref q :: rest))) : W p l e R s m args below meth c H locs cells slots Q (F0 m pc ls (.int n :: rest)) := by
  subst hty
  refine va_newa C.1.1 C.1.2.1 (C.1.2.2.2.2 _ harr) rfl C.2.2.2.2.1 hP hD hS hA ha hn hN hbytes hcells hslots hdg (fun q cA H1 hK1 hP1 hD1 hS1 => ?_)
  have e1 := hpr _ (hK1.2 (tysG G).length (cA, newarray.typeOf atype) (by simp)).2
  have e2 := hpr _ (C.2.2.2.2.1.2 j _ ht).2
  have e3 : cA = cG := Option.some.inj (e1.symm.trans e2)
  subst e3
  exact kk q H1 hP1 hD1 hS1
theorem z_putF (C : Cz p s m args meth c G own cc nL) {index ci k N : Nat} {Cn : String} {T : u_T} {ty0 : Nat → FieldType} (hc : vwCl[ci]? = some (Cn, T, N)) (hin : ∀ w ∈ u_ws Cn T N, w ∈ wT) (hty : ∀ k, k < N → parseFieldDescriptor (T k).2.2.1 = some (ty0 k)) (hnm : ∀ a, a < N → ∀ b, b < N → a ≠ b → (T a).2.1 ≠ (T b).2.1) (hk : k < N) (hlink : Cond.fieldLink own index (T k).1 (T k).2.1 (T k).2.2.1 ∈ wT) (hfin : (T k).2.2.2 = true) (hdecl : (T k).1 = own) {v : Value} (hn : narrow (ty0 k) v = v) (hfit : Jvm.fits (ty0 k) v = true) {a : Nat} {fs : List Value} {rw_ : va_W} (hl : k < fs.length) (hP : va_P G.1 vwCl ((a, .inr (ci, fs)) :: rw_) H) (hD : va_D A ((a, .inr (ci, fs)) :: rw_)) (hS : va_S A s.heap H locs) (hdg : decode cc pc = .ok (.putfield index, 3))
    (kk : ∀ (H1 : Heap) (locs1 : List Loc), va_P G.1 vwCl ((a, .inr (ci, fs.set k v)) :: rw_) H1 → va_D A ((a, .inr (ci, fs.set k v)) :: rw_) → va_S A s.heap H1 locs1 → W p l e R s m args below meth c H1 locs1 cells slots Q (F0 m (pc + 3) ls rest)) : W p l e R s m args below meth c H locs cells slots Q (F0 m pc ls (v :: .ref a :: rest)) :=
  va_putF C.1.1 C.1.2.1 C.1.2.2.2.2 hin ty0 hty hnm C.1.2.2.2.1 C.2.2.2.2.1 hP hD hS 0 rfl hc k hk (C.1.2.2.2.2 _ hlink) (fun _ h => h) hfin C.2.2.2.1 hdecl (hty k hk) hn hfit hl hdg kk
theorem z_put (C : Cz p s m args meth c G own cc nL) {index ci k N : Nat} {Cn : String} {T : u_T} {ty0 : Nat → FieldType} (hc : vwCl[ci]? = some (Cn, T, N)) (hin : ∀ w ∈ u_ws Cn T N, w ∈ wT) (hty : ∀ k, k < N → parseFieldDescriptor (T k).2.2.1 = some (ty0 k)) (hnm : ∀ a, a < N → ∀ b, b < N → a ≠ b → (T a).2.1 ≠ (T b).2.1) (hk : k < N) (hlink : Cond.fieldLink own index (T k).1 (T k).2.1 (T k).2.2.1 ∈ wT) (hfin : (T k).2.2.2 = false) {v : Value} (hn : narrow (ty0 k) v = v) (hfit : Jvm.fits (ty0 k) v = true) {a : Nat} {fs : List Value} {rw_ : va_W} (hl : k < fs.length) (hP : va_P G.1 vwCl ((a, .inr (ci, fs)) :: rw_) H) (hD : va_D A ((a, .inr (ci, fs)) :: rw_)) (hS : va_S A s.heap H locs) (hdg : decode cc pc = .ok (.putfield index, 3))
    (kk : ∀ (H1 : Heap) (locs1 : List Loc), va_P G.1 vwCl ((a, .inr (ci, fs.set k v)) :: rw_) H1 → va_D A ((a, .inr (ci, fs.set k v)) :: rw_) → va_S A s.heap H1 locs1 → W p l e R s m args below meth c H1 locs1 cells slots Q (F0 m (pc + 3) ls rest)) : W p l e R s m args below meth c H locs cells slots Q (F0 m pc ls (v :: .ref a :: rest)) :=
  va_put C.1.1 C.1.2.1 C.1.2.2.2.2 hin ty0 hty hnm C.1.2.2.2.1 C.2.2.2.2.1 hP hD hS 0 rfl hc k hk (C.1.2.2.2.2 _ hlink) (fun _ h => h) hfin (hty k hk) hn hfit hl hdg kk
theorem z_ret (C : Cz p s m args meth c G own cc nL) {sz mc ms : Nat} {w0 : va_W} {w1 : (Nat → Nat) → va_W} {ad : Nat → Nat} (hP : va_P G.1 vwCl (w1 ad) H) (hD : va_D (va_A w0 sz) (w1 ad)) (hS : va_S (va_A w0 sz) s.heap H locs) (hdg : decode cc pc = .ok (.return_, 1)) :
    W p l e R s m args below meth c H locs mc ms (MQ below (QcZ G sz w0 w1) args s mc ms (va_A w0 sz)) (F0 m pc ls []) :=
  W.vret C.1.1 C.1.2.1 C.2.1 (fun t ht _ => ⟨⟨ad, rfl, trivial, by rw [ht]; exact hP, hD⟩, hS.F ht⟩) hS.2.2 hdg C.2.2.1
theorem z_get (C : Cz p s m args meth c G own cc nL) {index ci k N : Nat} {Cn : String} {T : u_T} (F : FL own index ci k Cn T N) (hP : va_P G.1 vwCl ws H) (q0 : Nat) {a : Nat} {fs : List Value} (he : ws[q0]? = some (a, .inr (ci, fs))) {v : Value} (hv : fs[k]? = some v) (hdg : decode cc pc = .ok (.getfield index, 3))
    (kk : W p l e R s m args below meth c H locs cells slots Q (F0 m (pc + 3) ls (v :: rest))) : W p l e R s m args below meth c H locs cells slots Q (F0 m pc ls (.ref a :: rest)) := by
  obtain ⟨h1, h2, h3, h4, h5, h6⟩ := F
  obtain ⟨⟨hx, hb, hml, hown, hts⟩, hr, hlk, hin, hK, hN, _⟩ := C
  rcases h6 with h6 | ⟨host, h6⟩
  · exact va_get hx hb hts h5 hown hK hP q0 he h1 k h2 (hts _ h6) (fun _ h => h) hv hdg kk
  · exact va_getN hx hb hts h5 hown hK hP q0 he h1 k h2 (va_Nw.use rfl (hN _ h6)) (fun _ h => h) hv hdg kk
end ZRows
