/-! the law: its loop -/
section LawLoop
variable {p : Program} {l : Launch} {e : Env} {s : State} {m : MethodId} {below : List Frame} {meth : Method} {c : Code} {G : GG} {b L : Nat} {xs : Nat → Int32}
theorem law_loop (hr : meth.sig.returnType = ret) (hlk : meth.locks = false) (C : LwC p s m meth c G b L xs) : ∀ (n I : Nat) (SC SR : St) (H : Heap) (locs : List Loc) (ls : Array Slot), L + 6 < I + n → I ≤ L + 6 → Sim SC SR → Wd G (cmb SC SR) H → va_S (AL0 s) s.heap H locs → lv_has ls 4 (LV G b I) → W p l e room_1 s m #[Value.ref b] below meth c H locs 600000 7302250 (lw_Z below #[Value.ref b] s) (F0 m 18 ls []) := by
  have hL := C.2.2.2.2
  intro n
  induction n with
  | zero => intro I SC SR H locs ls h1 h2; exact absurd h1 (by omega)
  | succ n ih =>
    intro I SC SR H locs ls h1 h2 hs hW hS hl
    refine lv_iload_n C.1.1.1 C.1.1.2.1 dL_18 rfl (lv_at hl 0 rfl) ?_
    refine lv_aload_n C.1.1.1 C.1.1.2.1 dL_19 rfl (lv_at hl 3 rfl) ?_
    refine va_slen C.1.1.1 C.1.1.2.1 C.2.2.1 C.2.2.2.1 (Nat.not_le.mpr C.2.2.2.1) hS dL_20 ?_
    refine y_bipush C.1 dL_21 ⟨by decide, by decide⟩ (fun v6 h6 => ?_)
    have hLi : (Int32.ofNat L).toInt = (L : Int) := nI_toInt (n := L) (by omega)
    refine y_isub C.1 hLi h6 dL_23 (fun vd hd => ?_)
    rw [w32_id ⟨by omega, by omega⟩] at hd
    have hIi : (nI I).toInt = (I : Int) := nI_toInt (n := I) (by omega)
    refine y_icmp_gt (tgt := 877) C.1 hIi hd dL_24 (by decide) (fun _ => ?_) (fun hle => ?_)
    · refine lv_iconst (v := 1) C.1.1.1 C.1.1.2.1 dL_877 (by decide) ?_
      refine va_forget (fun q hq => hS.2.2 q hq) ?_
      exact lw_ret C.1.1.1 C.1.1.2.1 hr hlk dL_878
    · have hI : I + 6 ≤ L := by omega
      have kk : LwK p l e s m below meth c (lw_Z below #[Value.ref b] s) ls G b := by
        intro SC2 SR2 H2 locs2 hs2 hW2 hS2
        refine lv_iinc (v := nI (I + 6)) (lv' := LV G b (I + 6)) C.1.1.1 C.1.1.2.1 dL_871 hl (k := 0) rfl (nI_plus (I := I) (k := 6)) (by decide) rfl (fun ls2 hl2 => ?_)
        refine lv_goto (tgt := 18) C.1.1.1 C.1.1.2.1 dL_874 (by decide) ?_
        exact ih (I + 6) SC2 SR2 H2 locs2 ls2 (by omega) (by omega) hs2 hW2 hS2 hl2
      refine lv_aload_n C.1.1.1 C.1.1.2.1 dL_27 rfl (lv_at hl 3 rfl) ?_
      refine lv_iload_n C.1.1.1 C.1.1.2.1 dL_28 rfl (lv_at hl 0 rfl) ?_
      refine l_ld C hS (J := I) (by omega) rfl dL_29 ?_
      refine y_bipush C.1 dL_30 ⟨by decide, by decide⟩ (fun v31 h31 => ?_)
      refine y_iand C.1 (x := xs I) rfl h31 dL_32 (fun vt ht => ?_)
      generalize and32 (xs I).toInt 31 = V at ht
      by_cases hout : V < 0 ∨ 20 < V
      · refine y_tabOut (tgt := 871) C.1 ht hout dL_33 (by decide) ?_
        exact kk SC SR H locs hs hW hS
      · rcases (show V = 0 ∨ V = 1 ∨ V = 2 ∨ V = 3 ∨ V = 4 ∨ V = 5 ∨ V = 6 ∨ V = 7 ∨ V = 8 ∨ V = 9 ∨ V = 10 ∨ V = 11 ∨ V = 12 ∨ V = 13 ∨ V = 14 ∨ V = 15 ∨ V = 16 ∨ V = 17 ∨ V = 18 ∨ V = 19 ∨ V = 20 by omega) with hv | hv | hv | hv | hv | hv | hv | hv | hv | hv | hv | hv | hv | hv | hv | hv | hv | hv | hv | hv | hv
        · exact y_tabIn (v := 0) (off := 99) (tgt := 132) C.1 ht hv dL_33 (by decide) (by decide) rfl (by decide) (lc_feed C hs hW hS hl hI kk)
        · exact y_tabIn (v := 1) (off := 162) (tgt := 195) C.1 ht hv dL_33 (by decide) (by decide) rfl (by decide) (lc_trim C hs hW hS hl hI kk)
        · exact y_tabIn (v := 2) (off := 185) (tgt := 218) C.1 ht hv dL_33 (by decide) (by decide) rfl (by decide) (lc_compile C hs hW hS hl hI kk)
        · exact y_tabIn (v := 3) (off := 198) (tgt := 231) C.1 ht hv dL_33 (by decide) (by decide) rfl (by decide) (lc_fault C hs hW hS hl hI kk)
        · exact y_tabIn (v := 4) (off := 211) (tgt := 244) C.1 ht hv dL_33 (by decide) (by decide) rfl (by decide) (lc_type C hs hW hS hl hI kk)
        · exact y_tabIn (v := 5) (off := 244) (tgt := 277) C.1 ht hv dL_33 (by decide) (by decide) rfl (by decide) (lc_above C hs hW hS hl hI kk)
        · exact y_tabIn (v := 6) (off := 277) (tgt := 310) C.1 ht hv dL_33 (by decide) (by decide) rfl (by decide) (lc_under C hs hW hS hl hI kk)
        · exact y_tabIn (v := 7) (off := 310) (tgt := 343) C.1 ht hv dL_33 (by decide) (by decide) rfl (by decide) (lc_member C hs hW hS hl hI kk)
        · exact y_tabIn (v := 8) (off := 343) (tgt := 376) C.1 ht hv dL_33 (by decide) (by decide) rfl (by decide) (lc_seen C hs hW hS hl hI kk)
        · exact y_tabIn (v := 9) (off := 386) (tgt := 419) C.1 ht hv dL_33 (by decide) (by decide) rfl (by decide) (lc_erased C hs hW hS hl hI kk)
        · exact y_tabIn (v := 10) (off := 419) (tgt := 452) C.1 ht hv dL_33 (by decide) (by decide) rfl (by decide) (lc_overrides C hs hW hS hl hI kk)
        · exact y_tabIn (v := 11) (off := 452) (tgt := 485) C.1 ht hv dL_33 (by decide) (by decide) rfl (by decide) (lc_bridge C hs hW hS hl hI kk)
        · exact y_tabIn (v := 12) (off := 495) (tgt := 528) C.1 ht hv dL_33 (by decide) (by decide) rfl (by decide) (lc_same C hs hW hS hl hI kk)
        · exact y_tabIn (v := 13) (off := 554) (tgt := 587) C.1 ht hv dL_33 (by decide) (by decide) rfl (by decide) (lc_lookup C hs hW hS hl hI kk)
        · exact y_tabIn (v := 14) (off := 587) (tgt := 620) C.1 ht hv dL_33 (by decide) (by decide) rfl (by decide) (lc_specific C hs hW hS hl hI kk)
        · exact y_tabIn (v := 15) (off := 630) (tgt := 663) C.1 ht hv dL_33 (by decide) (by decide) rfl (by decide) (lc_may C hs hW hS hl hI kk)
        · exact y_tabIn (v := 16) (off := 683) (tgt := 716) C.1 ht hv dL_33 (by decide) (by decide) rfl (by decide) (lc_rule C hs hW hS hl hI kk)
        · exact y_tabIn (v := 17) (off := 746) (tgt := 779) C.1 ht hv dL_33 (by decide) (by decide) rfl (by decide) (lc_hops C hs hW hS hl hI kk)
        · exact y_tabIn (v := 18) (off := 759) (tgt := 792) C.1 ht hv dL_33 (by decide) (by decide) rfl (by decide) (lc_conflicts C hs hW hS hl hI kk)
        · exact y_tabIn (v := 19) (off := 782) (tgt := 815) C.1 ht hv dL_33 (by decide) (by decide) rfl (by decide) (lc_tally C hs hW hS hl hI kk)
        · exact y_tabIn (v := 20) (off := 815) (tgt := 848) C.1 ht hv dL_33 (by decide) (by decide) rfl (by decide) (lc_told C hs hW hS hl hI kk)
end LawLoop
