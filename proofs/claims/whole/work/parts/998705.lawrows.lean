/-! THE CLAIM OUT OF ONE WALK OF THE LAW'S BODY. Your part is whole_start (and what it stands on); all else here is the same for every law, but numbers. -/
def lw_P (b : Addr) (xs : List Int32) (args : Array Value) (s : State) : Prop := args = #[.ref b] ∧ s.IntsAt b xs ∧ xs.length ≤ 3072 ∧ (Jvm.Cond.and given_1 narrow_1).before args s = true
def lw_Q (_ : Array Value) (s : State) (o : Outcome) (t : State) : Prop := o = .returned (some (.int 1)) ∧ Framed s o t [] 600000 7302250
def lw_Z (below : List Frame) (a : Array Value) (s : State) : State → Prop := fun t => ∃ o, t.status = .running ∧ Ended t below o ∧ lw_Q a s o t
/-- the law's own end, with 1 on the stack, nothing written that was there before, its room as the claim has it -/
theorem lw_ret {p : Program} {l : Launch} {e : Env} {s : State} {m : MethodId} {below : List Frame} {meth : Method} {c : Code} {b : Nat} (hx : p.tables.exec = Jvm.exec) (hb : c.code = code) (hr : meth.sig.returnType = ret) (hlocks : meth.locks = false) {pc : Nat} {H : Heap} {ls : Array Slot} (hdg : decode code pc = .ok (.ireturn, 1)) : W p l e room_1 s m #[Value.ref b] below meth c H [] 600000 7302250 (lw_Z below #[Value.ref b] s) (F0 m pc ls [.int 1]) := by
  intro T hT X
  obtain ⟨fs, hret, hrun, hended, hW, hframe⟩ := X.leave (v := some (.int 1)) (hlocks := hlocks) (fun h => by rw [hr] at h; cases h)
  have hmeth' : T.vm.method? m = some meth := X.method'
  refine ⟨T.setFrames fs, ?_, .returned (some (.int 1)), hrun, hended, rfl, ⟨_, rfl⟩, hW, hframe⟩
  jvm_step X.here [X.here.top, hx, hb, hdg, hmeth', hr, ret, narrow_b1]
  (try refine ⟨rfl, ?_⟩); (try refine ⟨rfl, ?_⟩)
  first | (intro acts; rw [hret _ acts rfl rfl rfl]) | rw [hret _ _ rfl rfl rfl]
  exact Steps.refl _
/-- what holds at the law's entry: the machine, the code, the tables' words (any of lw_tbl by 'hts w (by decide +kernel)'), the script of L ints xs at the cell b, what the Statement gives of the start (any of its parts by flat_of_before) -/
def lw_At (p : Program) (s : State) (m : MethodId) (meth : Method) (c : Code) (b L : Nat) (xs : Nat → Int32) : Prop :=
  p.tables.exec = Jvm.exec ∧ c.code = code ∧ meth.sig.returnType = ret ∧ c.maxLocals = 4 ∧ s.vm.findClass R_law = some m.cls ∧ (∀ w ∈ lw_tbl, w.before #[Value.ref b] s = true) ∧ va_X b L xs s s.heap ∧ b < s.heap.size ∧ meth.locks = false ∧ (Jvm.Cond.and given_1 narrow_1).before #[Value.ref b] s = true
/-! the law: its calls at its own counts -/
section LawRows
variable {p : Program} {l : Launch} {e : Env} {R : Room} {s : State} {m : MethodId} {args : Array Value} {below : List Frame} {meth : Method} {c : Code} {H : Heap} {locs : List Loc} {cells slots : Nat} {Q : State → Prop} {cc : ByteArray} {pc : Nat} {ls : Array Slot} {rest : List Value} {G : GG} {own : String} {nL : Nat} {inj : St → St} {S : St} {i : Nat} {a : Int}
abbrev AL0 (s : State) : Nat → Prop := fun q => s.heap.size ≤ q
theorem l_S (hS : va_S (AL0 s) s.heap H locs) : va_S (AG G) s.heap H [] := ⟨hS.1, fun q hq _ => hS.2.1 q hq (Nat.not_le.mpr hq), fun _ h => absurd h List.not_mem_nil⟩
theorem l_cVI {rt : Option FieldType} (C : Cx p s m args meth c G own cc nL rt) (hAG : ∀ q, AG G q → s.heap.size ≤ q) {y : MethodName} {cc' : ByteArray} {nL' index n f q : Nat} {rt' : Option FieldType} {post : Int → St → Prop} {As st0 : List Value} {ci : Nat} {T : u_T} {N : Nat}
    (M : ML own index y cc' nL' rt' n) (hM : CnI l y cc' nL' rt' f q G inj (.ref (G.2.2 i) :: As) S post) (O : OC inj i a ci) (hcl : vwCl[ci]? = some (y.cls, T, N)) (hci : ci < 20) (hR : f + 1 ≤ R.frames ∧ 8 + (nL' + 11) + q ≤ R.locals) (hf : cells ≤ R.cells ∧ slots ≤ R.slots)
    (hsz : ls.size = nL) (hn : As.length = n) (hst : st0 = As.reverse ++ .ref (G.2.2 i) :: rest) (hrm : (rest.map fun v => v.category).sum ≤ 8) (hW : Wd G (inj S) H) (hS : va_S (AL0 s) s.heap H locs) (hdg : decode cc pc = .ok (.invokevirtual index, 3))
    (kk : ∀ (r : Int32) (X : Int) (u : St) (H1 : Heap) (locs1 : List Loc), r.toInt = X → post X u → Wd G (inj u) H1 → va_S (AL0 s) s.heap H1 locs1 → W p l e R s m args below meth c H1 locs1 cells slots Q (F0 m (pc + 3) ls (.int r :: rest))) : W p l e R s m args below meth c H locs cells slots Q (F0 m pc ls st0) := by
  have hE := wl_get G (inj S) O.1
  rw [cel_o O.2.1 hci] at hE
  have hrun : va_Run p l e R s m args below meth c H locs cells slots 0 0 (F0 m pc ls st0) rest (QcI G inj post (Value.ref (G.2.2 i) :: As).toArray) (AG G) :=
    va_runV (As := As) (rest := rest) C.1 hM (cwV n C.1.2.2.2.2 M.1 rfl rfl rfl M.2 hR) ⟨PcW_blind, va_recv C.2.2.2.1.1 hW.2 hcl hE, fun U hU hw => PcW_at C.2.2.2.1 C.2.2.2.2 (l_S hS) hW hU hw⟩ rfl hn hsz hst (lv_room hrm) hdg hf
  exact va_calli hrun hS (fun q _ h => hAG q h) hAG (fun r u t H1 locs1 ht _ hp hB _ _ hS1 => kk r _ u H1 locs1 rfl hp (by rw [← ht]; exact hB) hS1)
/-- the law stands: the machine, the world, the script -/
def LwC (p : Program) (s : State) (m : MethodId) (meth : Method) (c : Code) (G : GG) (b L : Nat) (xs : Nat → Int32) : Prop :=
  Cx p s m #[Value.ref b] meth c G R_law code 4 (some .boolean) ∧ (∀ q, AG G q → s.heap.size ≤ q) ∧ va_X b L xs s s.heap ∧ b < s.heap.size ∧ L ≤ 3072
abbrev LV (G : GG) (b I : Nat) : List (Nat × Value) := [(3, .int (nI I)), (2, .ref (G.2.2 1042)), (1, .ref (G.2.2 0)), (0, .ref b)]
variable {b L I : Nat} {xs : Nat → Int32}
theorem nI_plus {I k : Nat} : nI I + nI k = nI (I + k) := by
  unfold nI
  rw [Int32.ofNat_add]
theorem l_ld (C : LwC p s m meth c G b L xs) (hS : va_S (AL0 s) s.heap H locs) {J : Nat} (hJ : J < L) {i : Int32} (hi : i = nI J) (hdg : decode code pc = .ok (.iaload, 1))
    (kk : W p l e R s m #[Value.ref b] below meth c H locs cells slots Q (F0 m (pc + 1) ls (.int (xs J) :: rest))) : W p l e R s m #[Value.ref b] below meth c H locs cells slots Q (F0 m pc ls (.int i :: .ref b :: rest)) := by
  subst hi
  have h3 := C.2.2.2.2
  refine va_sld C.1.1.1 C.1.1.2.1 C.2.2.1 C.2.2.2.1 (Nat.not_le.mpr C.2.2.2.1) hS (nI_in hJ (by omega)) hdg ?_
  rw [nI_clamp (by omega)]
  exact kk
theorem l_arg (C : LwC p s m meth c G b L xs) (hS : va_S (AL0 s) s.heap H locs) (hl : lv_has ls 4 (LV G b I)) (hI : I + 6 ≤ L) (k : Nat) (hk : k < 6) (d0 : decode code pc = .ok (.aload_n 0, 1)) (d1 : decode code (pc + 1) = .ok (.iload_n 3, 1)) (d2 : decode code (pc + 2) = .ok (.iconst (k : Int), 1)) (d3 : decode code (pc + 3) = .ok (.iadd, 1)) (d4 : decode code (pc + 4) = .ok (.iaload, 1))
    (kk : W p l e R s m #[Value.ref b] below meth c H locs cells slots Q (F0 m (pc + 5) ls (.int (xs (I + k)) :: rest))) : W p l e R s m #[Value.ref b] below meth c H locs cells slots Q (F0 m pc ls rest) := by
  refine lv_aload_n C.1.1.1 C.1.1.2.1 d0 rfl (lv_at hl 3 rfl) ?_
  refine lv_iload_n C.1.1.1 C.1.1.2.1 d1 rfl (lv_at hl 0 rfl) ?_
  refine lv_iconst (v := nI k) C.1.1.1 C.1.1.2.1 d2 (by unfold nI; rfl) ?_
  refine lv_iadd C.1.1.1 C.1.1.2.1 d3 ?_
  exact l_ld C hS (J := I + k) (by omega) nI_plus d4 kk
theorem l_bool (C : LwC p s m meth c G b L xs) (hS : va_S (AL0 s) s.heap H locs) (x : Int32) (d0 : decode code pc = .ok (.ifCond .eq 7, 3)) (d1 : decode code (pc + 3) = .ok (.iconst 1, 1)) (d2 : decode code (pc + 4) = .ok (.goto 4, 3)) (d3 : decode code (pc + 7) = .ok (.iconst 0, 1))
    (kk : W p l e R s m #[Value.ref b] below meth c H locs cells slots Q (F0 m (pc + 8) ls (.int (if x = 0 then 0 else 1) :: rest))) : W p l e R s m #[Value.ref b] below meth c H locs cells slots Q (F0 m pc ls (.int x :: rest)) := by
  refine lv_if_eq (tgt := pc + 7) C.1.1.1 C.1.1.2.1 d0 (by omega) (fun h => ?_) (fun h => ?_)
  · rw [if_pos h] at kk
    exact lv_iconst (v := 0) C.1.1.1 C.1.1.2.1 d3 rfl kk
  · rw [if_neg h] at kk
    refine lv_iconst (v := 1) C.1.1.1 C.1.1.2.1 d1 rfl ?_
    exact lv_goto (tgt := pc + 8) C.1.1.1 C.1.1.2.1 d2 (by omega) kk
end LawRows
