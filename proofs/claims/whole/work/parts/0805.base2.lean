/-! calls of methods that write nothing -/
section Pure
variable {p : Program} {l : Launch} {e : Env} {R : Room} {s : State} {m : MethodId} {args : Array Value} {below : List Frame} {meth : Method} {c : Code} {H : Heap} {locs : List Loc} {Q : State → Prop} {cc : ByteArray} {pc : Nat} {ls : Array Slot} {rest : List Value} {G : GG} {own : String} {nL : Nat} {inj : St → St} {S : St} {i : Nat} {a : Int}
theorem y_cVIp {rt : Option FieldType} (C : Cx p s m args meth c G own cc nL rt) {y : MethodName} {cc' : ByteArray} {nL' index n f q : Nat} {rt' : Option FieldType} {post : Int → Prop} {As st0 : List Value} {ci : Nat} {T : u_T} {N : Nat}
    (M : ML own index y cc' nL' rt' n) (hM : CnI l y cc' nL' rt' f q G inj (.ref (G.2.2 i) :: As) S (fun r u => post r ∧ u = S)) (O : OC inj i a ci) (hcl : vwCl[ci]? = some (y.cls, T, N)) (hci : ci < 20) (hR : f + 1 ≤ R.frames ∧ 8 + (nL' + 11) + q ≤ R.locals)
    (hsz : ls.size = nL) (hn : As.length = n) (hst : st0 = As.reverse ++ .ref (G.2.2 i) :: rest) (hrm : (rest.map fun v => v.category).sum ≤ 8) (hW : Wd G (inj S) H) (hS : va_S (AG G) s.heap H locs) (hdg : decode cc pc = .ok (.invokevirtual index, 3))
    (kk : ∀ (r : Int32) (X : Int) (H1 : Heap) (locs1 : List Loc), r.toInt = X → post X → Wd G (inj S) H1 → va_S (AG G) s.heap H1 locs1 → W p l e R s m args below meth c H1 locs1 0 0 Q (F0 m (pc + 3) ls (.int r :: rest))) : W p l e R s m args below meth c H locs 0 0 Q (F0 m pc ls st0) :=
  y_cVI C M hM O hcl hci hR hsz hn hst hrm hW hS hdg (fun r X u H1 locs1 t hp hw hS1 => by
    obtain ⟨h1, h2⟩ := hp
    subst h2
    exact kk r X H1 locs1 t h1 hw hS1)
theorem y_cVOp {rt : Option FieldType} (C : Cx p s m args meth c G own cc nL rt) {y : MethodName} {cc' : ByteArray} {nL' index n f q : Nat} {rt' : Option FieldType} {ok : Int → Prop} {post : Int → Prop} {As st0 : List Value} {ci : Nat} {T : u_T} {N : Nat}
    (M : ML own index y cc' nL' rt' n) (hM : CnO l y cc' nL' rt' f q G inj ok (.ref (G.2.2 i) :: As) S (fun r u => post r ∧ u = S)) (O : OC inj i a ci) (hcl : vwCl[ci]? = some (y.cls, T, N)) (hci : ci < 20) (hR : f + 1 ≤ R.frames ∧ 8 + (nL' + 11) + q ≤ R.locals)
    (hsz : ls.size = nL) (hn : As.length = n) (hst : st0 = As.reverse ++ .ref (G.2.2 i) :: rest) (hrm : (rest.map fun v => v.category).sum ≤ 8) (hW : Wd G (inj S) H) (hS : va_S (AG G) s.heap H locs) (hdg : decode cc pc = .ok (.invokevirtual index, 3))
    (kk : ∀ (X : Int) (H1 : Heap) (locs1 : List Loc), ok X → post X → Wd G (inj S) H1 → va_S (AG G) s.heap H1 locs1 → W p l e R s m args below meth c H1 locs1 0 0 Q (F0 m (pc + 3) ls (.ref (G.2.2 X.toNat) :: rest))) : W p l e R s m args below meth c H locs 0 0 Q (F0 m pc ls st0) :=
  y_cVO C M hM O hcl hci hR hsz hn hst hrm hW hS hdg (fun X u H1 locs1 o hp hw hS1 => by
    obtain ⟨h1, h2⟩ := hp
    subst h2
    exact kk X H1 locs1 o h1 hw hS1)
theorem y_cSIp {rt : Option FieldType} (C : Cx p s m args meth c G own cc nL rt) {y : MethodName} {cc' : ByteArray} {nL' index n f q : Nat} {rt' : Option FieldType} {post : Int → Prop} {As st0 : List Value}
    (M : MS own index y cc' nL' rt' n) (hM : CnI l y cc' nL' rt' f q G inj As S (fun r u => post r ∧ u = S)) (hR : f + 1 ≤ R.frames ∧ 8 + (nL' + 11) + q ≤ R.locals)
    (hsz : ls.size = nL) (hn : As.length = n) (hst : st0 = As.reverse ++ rest) (hrm : (rest.map fun v => v.category).sum ≤ 8) (hW : Wd G (inj S) H) (hS : va_S (AG G) s.heap H locs) (hdg : decode cc pc = .ok (.invokestatic index, 3))
    (kk : ∀ (r : Int32) (X : Int) (H1 : Heap) (locs1 : List Loc), r.toInt = X → post X → Wd G (inj S) H1 → va_S (AG G) s.heap H1 locs1 → W p l e R s m args below meth c H1 locs1 0 0 Q (F0 m (pc + 3) ls (.int r :: rest))) : W p l e R s m args below meth c H locs 0 0 Q (F0 m pc ls st0) :=
  y_cSI C M hM hR hsz hn hst hrm hW hS hdg (fun r X u H1 locs1 t hp hw hS1 => by
    obtain ⟨h1, h2⟩ := hp
    subst h2
    exact kk r X H1 locs1 t h1 hw hS1)
end Pure
