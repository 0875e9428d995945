/-! contracts, returns, calls -/
def PcW (G : GG) (inj : St → St) (S : St) (avs : List Value) : Array Value → State → Prop := va_Pc avs (fun U => Wd G (inj S) U.heap ∧ KU G U ∧ okG G ∧ ZW G U U.heap)
def QcI (G : GG) (inj : St → St) (post : Int → St → Prop) : Array Value → State → Outcome → State → Prop := va_Qi (fun (r : Int32) (u : St) => post r.toInt u) (fun u t => Wd G (inj u) t.heap) (AG G)
def QcV (G : GG) (inj : St → St) (post : St → Prop) : Array Value → State → Outcome → State → Prop := va_Qv (fun (u : St) => post u) (fun u t => Wd G (inj u) t.heap) (AG G)
def QcO (G : GG) (inj : St → St) (ok : Int → Prop) (post : Int → St → Prop) : Array Value → State → Outcome → State → Prop := va_Qr (fun (u : Int × St) => post u.1 u.2 ∧ ok u.1) (fun u q t => q = G.2.2 u.1.toNat ∧ Wd G (inj u.2) t.heap) (AG G)
abbrev rmF (f q : Nat) : Room := { frames := f, cells := 0, slots := 0, locals := q }
def CnI (l : Launch) (y : MethodName) (cc : ByteArray) (nL : Nat) (rt : Option FieldType) (f q : Nat) (G : GG) (inj : St → St) (avs : List Value) (S : St) (post : Int → St → Prop) : Prop :=
  Met l y (.code y cc nL rt :: wT) (rmF f q) (PcW G inj S avs) (QcI G inj post) 0 0 (AG G)
def CnV (l : Launch) (y : MethodName) (cc : ByteArray) (nL : Nat) (rt : Option FieldType) (f q : Nat) (G : GG) (inj : St → St) (avs : List Value) (S : St) (post : St → Prop) : Prop :=
  Met l y (.code y cc nL rt :: wT) (rmF f q) (PcW G inj S avs) (QcV G inj post) 0 0 (AG G)
def CnO (l : Launch) (y : MethodName) (cc : ByteArray) (nL : Nat) (rt : Option FieldType) (f q : Nat) (G : GG) (inj : St → St) (ok : Int → Prop) (avs : List Value) (S : St) (post : Int → St → Prop) : Prop :=
  Met l y (.code y cc nL rt :: wT) (rmF f q) (PcW G inj S avs) (QcO G inj ok post) 0 0 (AG G)
theorem cn_body {l : Launch} {y : MethodName} {cc : ByteArray} {nL : Nat} {rt : Option FieldType} {f q : Nat} {G : GG} {inj : St → St} {avs : List Value} {S : St} {Qc : Array Value → State → Outcome → State → Prop}
    (hy : plainName y.cls = true) (hn : (lg_sl avs).length ≤ nL)
    (body : ∀ (p : Program) (e : Env) (s : State) (m : MethodId) (args : Array Value) (below : List Frame) (meth : Method) (c : Code) (ls : Array Slot), Cx p s m args meth c G y.cls cc nL rt → Wd G (inj S) s.heap → lv_has ls nL (lv_args 0 avs) →
      W p l e (rmF f q) s m args below meth c s.heap [] 0 0 (MQ below Qc args s 0 0 (AG G)) (F0 m 0 ls [])) :
    Met l y (.code y cc nL rt :: wT) (rmF f q) (PcW G inj S avs) Qc 0 0 (AG G) := by
  refine Met.ofW (cc := cc) (maxL := nL) (ret := rt) hy rfl ?_
  intro p e s m args below meth c s₁ B hml hv
  obtain ⟨rfl, hW, hKU, hG, hZ⟩ := hv
  have hts := atoms_spec (ws := .code y cc nL rt :: wT) B.pre
  have hown : s.vm.findClass y.cls = some m.cls := findClass_of_methodNamed B.named
  rw [lg_entry_eq]
  exact body p e s m _ below meth c _ ⟨⟨B.exec, B.bytes, hml, hown, fun w h => hts w (List.mem_cons_of_mem _ h)⟩, B.returns, B.notSynchronized, hKU, hG, hZ⟩ hW (lv_entry avs hn)
section Calls
variable {p : Program} {l : Launch} {e : Env} {R : Room} {s : State} {m : MethodId} {args : Array Value} {below : List Frame} {meth : Method} {c : Code} {H : Heap} {locs : List Loc} {Q : State → Prop} {cc : ByteArray} {pc : Nat} {ls : Array Slot} {rest : List Value} {G : GG} {own : String} {nL : Nat} {inj : St → St} {S : St} {i : Nat} {a : Int}
theorem y_iret (C : Cx p s m args meth c G own cc nL (some .int)) {post : Int → St → Prop} (hW : Wd G (inj S) H) (hS : va_S (AG G) s.heap H locs) {x : Int32} {X : Int} (hx : x.toInt = X) (h : post X S) (hdg : decode cc pc = .ok (.ireturn, 1)) :
    W p l e R s m args below meth c H locs 0 0 (MQ below (QcI G inj post) args s 0 0 (AG G)) (F0 m pc ls [.int x]) :=
  W.iret C.1.1 C.1.2.1 C.2.1 (fun t ht _ => ⟨⟨x, S, rfl, by show post x.toInt S; rw [hx]; exact h, by show Wd G (inj S) t.heap; rw [ht]; exact hW⟩, hS.F ht⟩) hS.2.2 hdg C.2.2.1
theorem y_zret (C : Cx p s m args meth c G own cc nL (some .boolean)) {post : Int → St → Prop} (hW : Wd G (inj S) H) (hS : va_S (AG G) s.heap H locs) {x : Int32} {X : Int} (hx : x.toInt = X) (h01 : X = 0 ∨ X = 1) (h : post X S) (hdg : decode cc pc = .ok (.ireturn, 1)) :
    W p l e R s m args below meth c H locs 0 0 (MQ below (QcI G inj post) args s 0 0 (AG G)) (F0 m pc ls [.int x]) :=
  W.zret C.1.1 C.1.2.1 C.2.1 (vp_nar_bool01 hx h01) (fun t ht _ => ⟨⟨x, S, rfl, by show post x.toInt S; rw [hx]; exact h, by show Wd G (inj S) t.heap; rw [ht]; exact hW⟩, hS.F ht⟩) hS.2.2 hdg C.2.2.1
theorem y_vret (C : Cx p s m args meth c G own cc nL none) {post : St → Prop} (hW : Wd G (inj S) H) (hS : va_S (AG G) s.heap H locs) (h : post S) (hdg : decode cc pc = .ok (.return_, 1)) :
    W p l e R s m args below meth c H locs 0 0 (MQ below (QcV G inj post) args s 0 0 (AG G)) (F0 m pc ls []) :=
  W.vret C.1.1 C.1.2.1 C.2.1 (fun t ht _ => ⟨⟨S, rfl, h, by show Wd G (inj S) t.heap; rw [ht]; exact hW⟩, hS.F ht⟩) hS.2.2 hdg C.2.2.1
theorem y_aret {ob : String} (C : Cx p s m args meth c G own cc nL (some (.object ob))) {ok : Int → Prop} {post : Int → St → Prop} (hW : Wd G (inj S) H) (hS : va_S (AG G) s.heap H locs) {X : Int} (hok : ok X) (h : post X S) (hdg : decode cc pc = .ok (.areturn, 1)) :
    W p l e R s m args below meth c H locs 0 0 (MQ below (QcO G inj ok post) args s 0 0 (AG G)) (F0 m pc ls [.ref (G.2.2 X.toNat)]) :=
  W.aret C.1.1 C.1.2.1 C.2.1 (Or.inl ⟨_, rfl⟩) (Or.inr ⟨_, rfl⟩) (fun t ht _ => ⟨⟨(X, S), G.2.2 X.toNat, rfl, ⟨h, hok⟩, rfl, by show Wd G (inj S) t.heap; rw [ht]; exact hW⟩, hS.F ht⟩) hS.2.2 hdg C.2.2.1
/-- what a call of an instance method needs of the tables -/
def ML (own : String) (index : Nat) (y : MethodName) (cc : ByteArray) (nL : Nat) (rt : Option FieldType) (n : Nat) : Prop :=
  GoodIn wT (wsV own index y.cls y (.code y cc nL rt :: wT)) ∧ (y.cls = y.cls ∧ y.cls ≠ "java/lang/invoke/MethodHandle" ∧ y.cls ≠ "java/lang/invoke/VarHandle" ∧ (parseMethodDescriptor y.desc).map (fun d => d.parameters.length) = some n)
theorem ml_of {own : String} {index : Nat} {y : MethodName} {cc : ByteArray} {nL : Nat} {rt : Option FieldType} {n : Nat} (h1 : Cond.methodLink own index y ∈ wT) (h2 : Cond.instanceMethod y ∈ wT) (h3 : Cond.selects y.cls y y ∈ wT) (h4 : Cond.initialized y.cls ∈ wT) (h5 : Cond.code y cc nL rt ∈ wT)
    (h6 : y.cls ≠ "java/lang/invoke/MethodHandle" ∧ y.cls ≠ "java/lang/invoke/VarHandle" ∧ (parseMethodDescriptor y.desc).map (fun d => d.parameters.length) = some n) : ML own index y cc nL rt n := by
  refine ⟨?_, rfl, h6⟩
  intro w hw
  unfold wsV at hw
  rcases List.mem_append.mp hw with hw | hw
  · have : w = Cond.methodLink own index y ∨ w = Cond.instanceMethod y ∨ w = Cond.selects y.cls y y ∨ w = Cond.initialized y.cls := by simpa using hw
    rcases this with rfl | rfl | rfl | rfl
    · exact ⟨h1, wT_good _ h1⟩
    · exact ⟨h2, wT_good _ h2⟩
    · exact ⟨h3, wT_good _ h3⟩
    · exact ⟨h4, wT_good _ h4⟩
  · exact wT_in h5 w hw
def MS (own : String) (index : Nat) (y : MethodName) (cc : ByteArray) (nL : Nat) (rt : Option FieldType) (n : Nat) : Prop :=
  GoodIn wT (wsS own index y (.code y cc nL rt :: wT)) ∧ (y.cls = own ∧ y.cls ≠ "java/lang/invoke/MethodHandle" ∧ y.cls ≠ "java/lang/invoke/VarHandle" ∧ (parseMethodDescriptor y.desc).map (fun d => d.parameters.length) = some n)
theorem ms_of {own : String} {index : Nat} {y : MethodName} {cc : ByteArray} {nL : Nat} {rt : Option FieldType} {n : Nat} (h1 : Cond.methodLink own index y ∈ wT) (h2 : Cond.static y ∈ wT) (h4 : Cond.initialized own ∈ wT) (h5 : Cond.code y cc nL rt ∈ wT)
    (h6 : y.cls = own ∧ y.cls ≠ "java/lang/invoke/MethodHandle" ∧ y.cls ≠ "java/lang/invoke/VarHandle" ∧ (parseMethodDescriptor y.desc).map (fun d => d.parameters.length) = some n) : MS own index y cc nL rt n := by
  refine ⟨?_, h6⟩
  intro w hw
  unfold wsS at hw
  rcases List.mem_append.mp hw with hw | hw
  · have : w = Cond.methodLink own index y ∨ w = Cond.static y ∨ w = Cond.initialized own := by simpa using hw
    rcases this with rfl | rfl | rfl
    · exact ⟨h1, wT_good _ h1⟩
    · exact ⟨h2, wT_good _ h2⟩
    · exact ⟨h4, wT_good _ h4⟩
  · exact wT_in h5 w hw
theorem PcW_blind {G : GG} {inj : St → St} {S : St} {avs : List Value} : FrameBlind (PcW G inj S avs) := by
  intro a U g mk h
  obtain ⟨h0, h1, ⟨h2, h3⟩, h4, h5⟩ := h
  exact ⟨h0, h1, ⟨va_K.moved (u := U) (U := U.calling g mk a) (Vm.Alike.refl U.vm) h2, fun w hw => va_Nw.same (u := U) (U := U.calling g mk a) (by have := (List.mem_filter.mp hw).2; cases w <;> first | rfl | exact Bool.noConfusion this) rfl (h3 w hw)⟩, h4, h5.go (s := U) (U := U.calling g mk a) (Vm.Alike.refl U.vm) (va_S.rf (A := AG G))⟩
theorem PcW_at {G : GG} {inj : St → St} {S : St} {avs : List Value} (hK : KU G s) (hG : okG G ∧ ZW G s s.heap) (hS : va_S (AG G) s.heap H locs) (hW : Wd G (inj S) H) {U : State} (hU : U.heap = H) (hw : s.WarmedH U.vm) : PcW G inj S avs avs.toArray U :=
  ⟨rfl, by rw [hU]; exact hW, ⟨va_K.moved hw.alike hK.1, NwU.warm hw hK.2⟩, hG.1, by rw [hU]; exact hG.2.go hw.alike hS⟩
theorem x_runV {rt : Option FieldType} (C : Cx p s m args meth c G own cc nL rt) {y : MethodName} {cc' : ByteArray} {nL' index n f q : Nat} {rt' : Option FieldType} {Qc : Array Value → State → Outcome → State → Prop} {As st0 : List Value} {ci : Nat} {T : u_T} {N : Nat}
    (M : ML own index y cc' nL' rt' n) (hM : Met l y (.code y cc' nL' rt' :: wT) (rmF f q) (PcW G inj S (.ref (G.2.2 i) :: As)) Qc 0 0 (AG G)) (O : OC inj i a ci) (hcl : vwCl[ci]? = some (y.cls, T, N)) (hci : ci < 20) (hR : f + 1 ≤ R.frames ∧ 8 + (nL' + 11) + q ≤ R.locals)
    (hsz : ls.size = nL) (hn : As.length = n) (hst : st0 = As.reverse ++ .ref (G.2.2 i) :: rest) (hrm : (rest.map fun v => v.category).sum ≤ 8) (hW : Wd G (inj S) H) (hS : va_S (AG G) s.heap H locs) (hdg : decode cc pc = .ok (.invokevirtual index, 3)) :
    va_Run p l e R s m args below meth c H locs 0 0 0 0 (F0 m pc ls st0) rest (Qc (Value.ref (G.2.2 i) :: As).toArray) (AG G) := by
  have hE := wl_get G (inj S) O.1
  rw [cel_o O.2.1 hci] at hE
  exact va_runV (As := As) (rest := rest) C.1 hM (cwV n C.1.2.2.2.2 M.1 rfl rfl rfl M.2 hR) ⟨PcW_blind, va_recv C.2.2.2.1.1 hW.2 hcl hE, fun U hU hw => PcW_at C.2.2.2.1 C.2.2.2.2 hS hW hU hw⟩ rfl hn hsz hst (lv_room hrm) hdg ⟨Nat.zero_le _, Nat.zero_le _⟩
theorem x_runS {rt : Option FieldType} (C : Cx p s m args meth c G own cc nL rt) {y : MethodName} {cc' : ByteArray} {nL' index n f q : Nat} {rt' : Option FieldType} {Qc : Array Value → State → Outcome → State → Prop} {As st0 : List Value}
    (M : MS own index y cc' nL' rt' n) (hM : Met l y (.code y cc' nL' rt' :: wT) (rmF f q) (PcW G inj S As) Qc 0 0 (AG G)) (hR : f + 1 ≤ R.frames ∧ 8 + (nL' + 11) + q ≤ R.locals)
    (hsz : ls.size = nL) (hn : As.length = n) (hst : st0 = As.reverse ++ rest) (hrm : (rest.map fun v => v.category).sum ≤ 8) (hW : Wd G (inj S) H) (hS : va_S (AG G) s.heap H locs) (hdg : decode cc pc = .ok (.invokestatic index, 3)) :
    va_Run p l e R s m args below meth c H locs 0 0 0 0 (F0 m pc ls st0) rest (Qc As.toArray) (AG G) :=
  va_runS (As := As) (rest := rest) C.1 hM (cwS n C.1.2.2.2.2 M.1 rfl rfl rfl M.2 hR) ⟨PcW_blind, fun U hU hw => PcW_at C.2.2.2.1 C.2.2.2.2 hS hW hU hw⟩ rfl hn hsz hst (lv_room hrm) hdg ⟨Nat.zero_le _, Nat.zero_le _⟩
theorem y_cVI {rt : Option FieldType} (C : Cx p s m args meth c G own cc nL rt) {y : MethodName} {cc' : ByteArray} {nL' index n f q : Nat} {rt' : Option FieldType} {post : Int → St → Prop} {As st0 : List Value} {ci : Nat} {T : u_T} {N : Nat}
    (M : ML own index y cc' nL' rt' n) (hM : CnI l y cc' nL' rt' f q G inj (.ref (G.2.2 i) :: As) S post) (O : OC inj i a ci) (hcl : vwCl[ci]? = some (y.cls, T, N)) (hci : ci < 20) (hR : f + 1 ≤ R.frames ∧ 8 + (nL' + 11) + q ≤ R.locals)
    (hsz : ls.size = nL) (hn : As.length = n) (hst : st0 = As.reverse ++ .ref (G.2.2 i) :: rest) (hrm : (rest.map fun v => v.category).sum ≤ 8) (hW : Wd G (inj S) H) (hS : va_S (AG G) s.heap H locs) (hdg : decode cc pc = .ok (.invokevirtual index, 3))
    (kk : ∀ (r : Int32) (X : Int) (u : St) (H1 : Heap) (locs1 : List Loc), r.toInt = X → post X u → Wd G (inj u) H1 → va_S (AG G) s.heap H1 locs1 → W p l e R s m args below meth c H1 locs1 0 0 Q (F0 m (pc + 3) ls (.int r :: rest))) : W p l e R s m args below meth c H locs 0 0 Q (F0 m pc ls st0) :=
  va_calli (x_runV C M hM O hcl hci hR hsz hn hst hrm hW hS hdg) hS (fun _ _ h => h) (fun _ h => h) (fun r u t H1 locs1 ht _ hp hB _ _ hS1 => kk r _ u H1 locs1 rfl hp (by rw [← ht]; exact hB) hS1)
theorem y_cVV {rt : Option FieldType} (C : Cx p s m args meth c G own cc nL rt) {y : MethodName} {cc' : ByteArray} {nL' index n f q : Nat} {rt' : Option FieldType} {post : St → Prop} {As st0 : List Value} {ci : Nat} {T : u_T} {N : Nat}
    (M : ML own index y cc' nL' rt' n) (hM : CnV l y cc' nL' rt' f q G inj (.ref (G.2.2 i) :: As) S post) (O : OC inj i a ci) (hcl : vwCl[ci]? = some (y.cls, T, N)) (hci : ci < 20) (hR : f + 1 ≤ R.frames ∧ 8 + (nL' + 11) + q ≤ R.locals)
    (hsz : ls.size = nL) (hn : As.length = n) (hst : st0 = As.reverse ++ .ref (G.2.2 i) :: rest) (hrm : (rest.map fun v => v.category).sum ≤ 8) (hW : Wd G (inj S) H) (hS : va_S (AG G) s.heap H locs) (hdg : decode cc pc = .ok (.invokevirtual index, 3))
    (kk : ∀ (u : St) (H1 : Heap) (locs1 : List Loc), post u → Wd G (inj u) H1 → va_S (AG G) s.heap H1 locs1 → W p l e R s m args below meth c H1 locs1 0 0 Q (F0 m (pc + 3) ls rest)) : W p l e R s m args below meth c H locs 0 0 Q (F0 m pc ls st0) :=
  va_callv (x_runV C M hM O hcl hci hR hsz hn hst hrm hW hS hdg) hS (fun _ _ h => h) (fun _ h => h) (fun u t H1 locs1 ht _ hp hB _ _ hS1 => kk u H1 locs1 hp (by rw [← ht]; exact hB) hS1)
theorem y_cVO {rt : Option FieldType} (C : Cx p s m args meth c G own cc nL rt) {y : MethodName} {cc' : ByteArray} {nL' index n f q : Nat} {rt' : Option FieldType} {ok : Int → Prop} {post : Int → St → Prop} {As st0 : List Value} {ci : Nat} {T : u_T} {N : Nat}
    (M : ML own index y cc' nL' rt' n) (hM : CnO l y cc' nL' rt' f q G inj ok (.ref (G.2.2 i) :: As) S post) (O : OC inj i a ci) (hcl : vwCl[ci]? = some (y.cls, T, N)) (hci : ci < 20) (hR : f + 1 ≤ R.frames ∧ 8 + (nL' + 11) + q ≤ R.locals)
    (hsz : ls.size = nL) (hn : As.length = n) (hst : st0 = As.reverse ++ .ref (G.2.2 i) :: rest) (hrm : (rest.map fun v => v.category).sum ≤ 8) (hW : Wd G (inj S) H) (hS : va_S (AG G) s.heap H locs) (hdg : decode cc pc = .ok (.invokevirtual index, 3))
    (kk : ∀ (X : Int) (u : St) (H1 : Heap) (locs1 : List Loc), ok X → post X u → Wd G (inj u) H1 → va_S (AG G) s.heap H1 locs1 → W p l e R s m args below meth c H1 locs1 0 0 Q (F0 m (pc + 3) ls (.ref (G.2.2 X.toNat) :: rest))) : W p l e R s m args below meth c H locs 0 0 Q (F0 m pc ls st0) :=
  va_callr (x_runV C M hM O hcl hci hR hsz hn hst hrm hW hS hdg) hS (fun _ _ h => h) (fun _ h => h) (fun u ra t H1 locs1 ht _ hp hB _ _ hS1 => by
    obtain ⟨rfl, hB⟩ := hB
    exact kk u.1 u.2 H1 locs1 hp.2 hp.1 (by rw [← ht]; exact hB) hS1)
theorem y_cSI {rt : Option FieldType} (C : Cx p s m args meth c G own cc nL rt) {y : MethodName} {cc' : ByteArray} {nL' index n f q : Nat} {rt' : Option FieldType} {post : Int → St → Prop} {As st0 : List Value}
    (M : MS own index y cc' nL' rt' n) (hM : CnI l y cc' nL' rt' f q G inj As S post) (hR : f + 1 ≤ R.frames ∧ 8 + (nL' + 11) + q ≤ R.locals)
    (hsz : ls.size = nL) (hn : As.length = n) (hst : st0 = As.reverse ++ rest) (hrm : (rest.map fun v => v.category).sum ≤ 8) (hW : Wd G (inj S) H) (hS : va_S (AG G) s.heap H locs) (hdg : decode cc pc = .ok (.invokestatic index, 3))
    (kk : ∀ (r : Int32) (X : Int) (u : St) (H1 : Heap) (locs1 : List Loc), r.toInt = X → post X u → Wd G (inj u) H1 → va_S (AG G) s.heap H1 locs1 → W p l e R s m args below meth c H1 locs1 0 0 Q (F0 m (pc + 3) ls (.int r :: rest))) : W p l e R s m args below meth c H locs 0 0 Q (F0 m pc ls st0) :=
  va_calli (x_runS C M hM hR hsz hn hst hrm hW hS hdg) hS (fun _ _ h => h) (fun _ h => h) (fun r u t H1 locs1 ht _ hp hB _ _ hS1 => kk r _ u H1 locs1 rfl hp (by rw [← ht]; exact hB) hS1)
end Calls
