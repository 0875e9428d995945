/-! Tokens.sortOfWord: by hand, it reads the static WORDS -/
def sortFrom (x : Int) : Nat → List Int → Int
  | _, [] => 2
  | i, w :: ws => if w = x then 200 + (i : Int) else sortFrom x (i + 1) ws
theorem sf_step (x : Int) {i : Nat} (h : i < 14) : sortFrom x i (wordsL.drop i) = if wordsL.getD i 0 = x then 200 + (i : Int) else sortFrom x (i + 1) (wordsL.drop (i + 1)) := by
  have hl : i < wordsL.length := h
  rw [List.drop_eq_getElem_cons hl]
  have e : wordsL.getD i 0 = wordsL[i] := by simp [List.getD, hl]
  rw [e]
  rfl
theorem sf_0 (x : Int) : sortFrom x 0 wordsL = sortW x := by
  simp only [wordsL, sortFrom, sortW, eq_comm (b := x)]
  rfl
theorem words64 : ∀ i, i < 14 → (-9223372036854775808 ≤ wordsL.getD i 0 ∧ wordsL.getD i 0 < 9223372036854775808) := by decide +kernel
theorem wn_words : Cond.fieldLinkNest RX5 58 "CallCourt" "WORDS" "[J" "CallCourt" ∈ wN := wn (wtab_2 (List.mem_of_getElem? (i := 214) (by decide +kernel))) rfl
set_option maxHeartbeats 4000000 in
theorem uX5_sortOfWord_2 {p : Program} {l : Launch} {e : Env} {s : State} {m : MethodId} {args : Array Value} {below : List Frame} {meth : Method} {c : Code} {G : GG} {SB : St} (C : Cx p s m args meth c G RX5 cX5_sortOfWord 3 (some .int)) {S : St} {k : Int → Prop} {xv0 : Int64} {x0 : Int} (xt0 : xv0.toInt = x0) :
    ∀ (n i : Nat) {H : Heap} {locs : List Loc} {ls : Array Slot} {v : Int32}, i + n = 14 → v.toInt = (i : Int) → Wd G ((injC SB) S) H → va_S (AG G) s.heap H locs → lv_has ls 3 [(2, .int v), (0, .long xv0)] → k (sortFrom x0 i (wordsL.drop i)) →
      W p l e (rmF 0 0) s m args below meth c H locs 0 0 (MQ below (QcI G (injC SB) (fun r u => k r ∧ u = S)) args s 0 0 (AG G)) (F0 m 2 ls []) := by
  obtain ⟨t, hZ, hT⟩ := C.2.2.2.2.2
  have hlk := va_Nw.use (A := args) rfl (C.2.2.2.1.2 _ wn_words)
  intro n
  induction n with
  | zero =>
    intro i H locs ls v hi hv hw hS hl h
    have hi : i = 14 := by omega
    subst hi
    refine lv_iload_n C.1.1 C.1.2.1 dX5_sortOfWord_2 rfl (lv_at hl 0 rfl) ?_
    refine va_getsN C.1.1 C.1.2.1 hZ hS C.1.2.2.2.1 hlk (fun _ h => h) dX5_sortOfWord_3 ?_
    refine va_tlen C.1.1 C.1.2.1 hT hS rfl dX5_sortOfWord_6 ?_
    refine y_icmp_ge C hv (Y := 14) (by decide) dX5_sortOfWord_7 (tgt := 32) (by decide) (fun c1 => ?_) (fun c1 => ?_)
    · refine y_iconst C dX5_sortOfWord_32 ⟨by decide, by decide⟩ (fun v2 t2 => ?_)
      exact y_iret C hw hS t2 ⟨h, rfl⟩ dX5_sortOfWord_33
    · exact absurd c1 (by decide)
  | succ n ih =>
    intro i H locs ls v hi hv hw hS hl h
    have hi14 : i < 14 := by omega
    rw [sf_step x0 hi14] at h
    refine lv_iload_n C.1.1 C.1.2.1 dX5_sortOfWord_2 rfl (lv_at hl 0 rfl) ?_
    refine va_getsN C.1.1 C.1.2.1 hZ hS C.1.2.2.2.1 hlk (fun _ h => h) dX5_sortOfWord_3 ?_
    refine va_tlen C.1.1 C.1.2.1 hT hS rfl dX5_sortOfWord_6 ?_
    refine y_icmp_ge C hv (Y := 14) (by decide) dX5_sortOfWord_7 (tgt := 32) (by decide) (fun c1 => ?_) (fun c1 => ?_)
    · exact absurd c1 (by omega)
    · refine va_getsN C.1.1 C.1.2.1 hZ hS C.1.2.2.2.1 hlk (fun _ h => h) dX5_sortOfWord_10 ?_
      refine lv_iload_n C.1.1 C.1.2.1 dX5_sortOfWord_13 rfl (lv_at hl 0 rfl) ?_
      obtain ⟨hin, hcl⟩ := nat_of (i := 14) hv ⟨by omega, c1⟩
      have hcl : v.toNatClampNeg = i := by omega
      refine va_tl C.1.1 C.1.2.1 hT hS hin (v := .long (i64 (wordsL.getD i 0))) (by rw [hcl]) dX5_sortOfWord_14 ?_
      refine lv_lload_n C.1.1 C.1.2.1 dX5_sortOfWord_15 rfl (lv_at hl 1 rfl) ?_
      refine y_lcmp C (i64_toInt (words64 i hi14)) xt0 dX5_sortOfWord_16 (fun v5 t5 => ?_)
      refine y_if_ne C t5 dX5_sortOfWord_17 (tgt := 26) (by decide) (fun c2 => ?_) (fun c2 => ?_)
      · have c2 := cmp_ne.mp c2
        rw [if_neg c2] at h
        obtain ⟨v6, t6, g6⟩ : ∃ z : Int32, z.toInt = ((i + 1 : Nat) : Int) ∧ v + Int32.ofInt 1 = z := ⟨_, (ti_inc hv ⟨by decide, by decide⟩).trans (by rw [w32_id (by omega)]; omega), rfl⟩
        refine lv_iinc (v := v6) (lv' := [(2, .int v6), (0, .long xv0)]) C.1.1 C.1.2.1 dX5_sortOfWord_26 hl (k := 0) rfl g6 (by decide) rfl (fun ls hl => ?_)
        refine lv_goto (tgt := 2) C.1.1 C.1.2.1 dX5_sortOfWord_29 (by decide) ?_
        exact ih (i + 1) (by omega) t6 hw hS hl h
      · have c2 := cmp_eq.mp c2
        rw [if_pos c2] at h
        refine y_sipush C dX5_sortOfWord_20 ⟨by decide, by decide⟩ (fun v7 t7 => ?_)
        refine lv_iload_n C.1.1 C.1.2.1 dX5_sortOfWord_23 rfl (lv_at hl 0 rfl) ?_
        refine y_iadd C t7 hv dX5_sortOfWord_24 (fun v8 t8 => ?_)
        have t9 : v8.toInt = 200 + (i : Int) := by rw [t8]; exact w32_id (by omega)
        exact y_iret C hw hS t9 ⟨h, rfl⟩ dX5_sortOfWord_25
theorem kX5_sortOfWord (l : Launch) (G : GG) (SB S : St) {xv0 : Int64} {x0 : Int} (xt0 : xv0.toInt = x0) {k : Int → Prop} (h : wX5_sortOfWord S x0 k) : CnI l yX5_sortOfWord cX5_sortOfWord 3 (some .int) 0 0 G (injC SB) [.long xv0] S (fun r u => k r ∧ u = S) :=
  cn_body (by decide +kernel) (Nat.le_of_ble_eq_true rfl) (fun p e s m args below meth c ls C hw hl => by
    refine y_iconst C dX5_sortOfWord_0 ⟨by decide, by decide⟩ (fun v1 t1 => ?_)
    refine lv_istore_n (lv' := [(2, .int v1), (0, .long xv0)]) C.1.1 C.1.2.1 dX5_sortOfWord_1 rfl hl (by decide) rfl (fun ls hl => ?_)
    refine uX5_sortOfWord_2 C xt0 14 0 rfl t1 hw va_S.rf hl ?_
    show k (sortFrom x0 0 wordsL)
    rw [sf_0]
    exact h)
