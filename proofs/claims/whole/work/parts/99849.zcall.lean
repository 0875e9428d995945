/-! constructors: calls of constructors -/
theorem PcZ_blind {G : GG} {avs : List Value} {sz : Nat} {w0 wro : va_W} : FrameBlind (PcZ G avs sz w0 wro) := by
  intro a U g mk h
  obtain ⟨h0, h1, h2, ⟨h3, h4, h6, h7⟩, h5⟩ := h
  exact ⟨h0, h1, h2, ⟨va_K.moved (u := U) (U := U.calling g mk a) (Vm.Alike.refl U.vm) h3, fun w hw => va_Nw.same (u := U) (U := U.calling g mk a) (by have := (List.mem_filter.mp hw).2; cases w <;> first | rfl | exact Bool.noConfusion this) rfl (h4 w hw), va_AO.moved (u := U) (U := U.calling g mk a) (Vm.Alike.refl U.vm) h6, va_AO.moved (u := U) (U := U.calling g mk a) (Vm.Alike.refl U.vm) h7⟩, h5⟩
/-- what is new, and what is only read, lie apart -/
theorem roD {D : va_G} {w0 wro wn : va_W} {H0 : Heap} (hP : va_P D vwCl (w0 ++ wro) H0) (hD : va_D (fun _ => True) (w0 ++ wro)) (hn : va_D (va_A w0 H0.size) wn) : va_D (fun _ => True) (wn ++ wro) := by
  have at2 : ∀ (k : Nat) (q : Nat × va_E), wro[k]? = some q → (w0 ++ wro)[w0.length + k]? = some q := fun k q hk => by rw [List.getElem?_append_right (by omega), show w0.length + k - w0.length = k by omega]; exact hk
  have hDr : va_D (fun _ => True) wro := ⟨fun i j p q hi hj e => by have := hD.1 _ _ _ _ (at2 i p hi) (at2 j q hj) e; omega, fun _ _ _ => trivial⟩
  refine va_D.app (hn.weaken (fun _ _ _ _ => trivial)) hDr (fun i j x y hx hy hxy => ?_)
  have h1 := hn.2 i x hx
  have h2 := hP _ y (at2 j y hy)
  rw [hxy] at h1
  rcases h1 with ⟨k, e, hk⟩ | h1
  · have hk' : (w0 ++ wro)[k]? = some (y.1, e) := by rw [List.getElem?_append_left (List.getElem?_eq_some_iff.mp hk).1]; exact hk
    have := hD.1 _ _ _ _ (at2 j y hy) hk' rfl
    have jl := (List.getElem?_eq_some_iff.mp hk).1
    omega
  · have := h2.lt
    omega
section ZCall
variable {p : Program} {l : Launch} {e : Env} {R : Room} {s : State} {m : MethodId} {args : Array Value} {below : List Frame} {meth : Method} {c : Code} {H : Heap} {locs : List Loc} {cells slots : Nat} {Q : State → Prop} {cc : ByteArray} {pc : Nat} {ls : Array Slot} {rest : List Value} {G : GG} {own : String} {nL : Nat} {A : Nat → Prop}
theorem z_pre (C : Cz p s m args meth c G own cc nL) {b : Nat} {As : List Value} {wr wc wro : va_W} (hP : va_P G.1 vwCl (wr ++ wc) H) (hro : va_P G.1 vwCl wro H) (hDro : va_D (fun _ => True) (wc ++ wro)) : PreS s H (PcZ G (.ref b :: As) H.size wc wro) (.ref b :: As) :=
  ⟨PcZ_blind, fun U hU hw => ⟨rfl, by rw [hU], by rw [hU]; exact va_P.app (vP_right hP) hro, ⟨va_K.moved hw.alike C.2.2.2.2.1, NwU.warm hw C.2.2.2.2.2.1, va_AO.moved hw.alike C.2.2.2.2.2.2.1, va_AO.moved hw.alike C.2.2.2.2.2.2.2⟩, hDro⟩⟩
theorem z_F {wr wc : va_W} (hD : va_D A (wr ++ wc)) (hS : va_S A s.heap H locs) (hA : ∀ q, s.heap.size ≤ q → A q) : ∀ q, va_A wc H.size q → A q := by
  intro q h
  rcases h with ⟨k, e, h⟩ | h
  · exact hD.2 (wr.length + k) (q, e) (by rw [List.getElem?_append_right (by omega), show wr.length + k - wr.length = k by omega]; exact h)
  · exact hA q (Nat.le_trans hS.1 h)
theorem z_callI (C : Cz p s m args meth c G own cc nL) {y : MethodName} {cc' : ByteArray} {nL' f' q' mc' ms' index n b : Nat} {As st0 : List Value} {wr wc wro : va_W} {w1 : (Nat → Nat) → va_W} (hM : CnZ l y cc' nL' f' q' mc' ms' G (.ref b :: As) H.size wc wro w1) (hlink : Cond.methodLink own index y ∈ wT) (hin : Cond.instanceMethod y ∈ wT) (hcode : Cond.code y cc' nL' none ∈ wT) (hini : Cond.initialized y.cls ∈ wT) (hname : y.name = "<init>") (hd : y.cls ≠ "java/lang/invoke/MethodHandle" ∧ y.cls ≠ "java/lang/invoke/VarHandle" ∧ (parseMethodDescriptor y.desc).map (fun d => d.parameters.length) = some n) (hR : f' + 1 ≤ R.frames ∧ 8 + (nL' + 11) + q' ≤ R.locals)
    (hsz : ls.size = nL) (hn : As.length = n) (hst : st0 = As.reverse ++ .ref b :: rest) (hrm : (rest.map fun v => v.category).sum ≤ 8) (hf : cells + mc' ≤ R.cells ∧ slots + ms' ≤ R.slots) (hP : va_P G.1 vwCl (wr ++ wc) H) (hD : va_D A (wr ++ wc)) (hS : va_S A s.heap H locs) (hA : ∀ q, s.heap.size ≤ q → A q) (hro : va_P G.1 vwCl wro H) (hDro : va_D (fun _ => True) (wc ++ wro)) (hdg : decode cc pc = .ok (.invokespecial index, 3))
    (kk : ∀ (ad : Nat → Nat) (H1 : Heap) (locs1 : List Loc), va_P G.1 vwCl (wr ++ w1 ad) H1 → va_D A (wr ++ w1 ad) → va_S A s.heap H1 locs1 → W p l e R s m args below meth c H1 locs1 (cells + mc') (slots + ms') Q (F0 m (pc + 3) ls rest)) : W p l e R s m args below meth c H locs cells slots Q (F0 m pc ls st0) := by
  have hF := z_F hD hS hA
  refine va_callv (va_runI (As := As) (rest := rest) C.1 hM (cwI n C.1.2.2.2.2 (wT_in hcode) rfl rfl rfl (C.1.2.2.2.2 _ hini) (C.1.2.2.2.2 _ hlink) (C.1.2.2.2.2 _ hin) hname hd hR) (z_pre C hP hro hDro) rfl hn hsz hst (lv_room hrm) hdg hf) hS (fun q _ h => hF q h) hF (fun ad t H1 locs1 ht hvm hw hB hz1 hk1 hS1 => ?_)
  obtain ⟨b1, b2⟩ := hB
  rw [ht] at b1
  obtain ⟨j1, j2⟩ := jn hP hD hk1 hF b1 b2
  exact kk ad H1 locs1 j1 j2 hS1
theorem z_callN (C : Cz p s m args meth c G own cc nL) {y : MethodName} {cc' : ByteArray} {nL' f' q' mc' ms' index n b : Nat} {host : String} {As st0 : List Value} {wr wc wro : va_W} {w1 : (Nat → Nat) → va_W} (hM : CnZ l y cc' nL' f' q' mc' ms' G (.ref b :: As) H.size wc wro w1) (hlink : Cond.methodLinkNest own index y host ∈ wN) (hin : Cond.instanceMethod y ∈ wT) (hcode : Cond.code y cc' nL' none ∈ wT) (hini : Cond.initialized y.cls ∈ wT) (hname : y.name = "<init>") (hd : y.cls ≠ "java/lang/invoke/MethodHandle" ∧ y.cls ≠ "java/lang/invoke/VarHandle" ∧ (parseMethodDescriptor y.desc).map (fun d => d.parameters.length) = some n) (hR : f' + 1 ≤ R.frames ∧ 8 + (nL' + 11) + q' ≤ R.locals)
    (hsz : ls.size = nL) (hn : As.length = n) (hst : st0 = As.reverse ++ .ref b :: rest) (hrm : (rest.map fun v => v.category).sum ≤ 8) (hf : cells + mc' ≤ R.cells ∧ slots + ms' ≤ R.slots) (hP : va_P G.1 vwCl (wr ++ wc) H) (hD : va_D A (wr ++ wc)) (hS : va_S A s.heap H locs) (hA : ∀ q, s.heap.size ≤ q → A q) (hro : va_P G.1 vwCl wro H) (hDro : va_D (fun _ => True) (wc ++ wro)) (hdg : decode cc pc = .ok (.invokespecial index, 3))
    (kk : ∀ (ad : Nat → Nat) (H1 : Heap) (locs1 : List Loc), va_P G.1 vwCl (wr ++ w1 ad) H1 → va_D A (wr ++ w1 ad) → va_S A s.heap H1 locs1 → W p l e R s m args below meth c H1 locs1 (cells + mc') (slots + ms') Q (F0 m (pc + 3) ls rest)) : W p l e R s m args below meth c H locs cells slots Q (F0 m pc ls st0) := by
  have hF := z_F hD hS hA
  refine va_callv (va_runIN (As := As) (rest := rest) C.1 hM ⟨va_cnB n C.1.2.2.2.2 (wT_in hcode) rfl rfl rfl (C.2.2.2.2.2.1 _ hlink) (C.1.2.2.2.2 _ hini) hd hR, hname, C.1.2.2.2.2 _ hin⟩ (z_pre C hP hro hDro) rfl hn hsz hst (lv_room hrm) hdg hf) hS (fun q _ h => hF q h) hF (fun ad t H1 locs1 ht hvm hw hB hz1 hk1 hS1 => ?_)
  obtain ⟨b1, b2⟩ := hB
  rw [ht] at b1
  obtain ⟨j1, j2⟩ := jn hP hD hk1 hF b1 b2
  exact kk ad H1 locs1 j1 j2 hS1
end ZCall
