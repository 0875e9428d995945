/-! rows of arrays -/
section Arr
variable {p : Program} {l : Launch} {e : Env} {R : Room} {s : State} {m : MethodId} {args : Array Value} {below : List Frame} {meth : Method} {c : Code} {H : Heap} {locs : List Loc} {cells slots : Nat} {Q : State → Prop} {cc : ByteArray} {pc : Nat} {ls : Array Slot} {rest : List Value} {G : GG} {own : String} {nL : Nat} {rt : Option FieldType} {inj : St → St} {S : St} {i : Nat} {a n : Int}
theorem cel_i {G : GG} {S : St} {i : Nat} (h : kd i = 21) : cel G S i = .inl (G.2.1 1, ln i, .inl (fun j => i32 (S i j))) := by
  simp [cel, arw, h]
theorem cel_b {G : GG} {S : St} {i : Nat} (h : kd i = 20) : cel G S i = .inl (G.2.1 0, ln i, .inl (fun j => i32 (S i j))) := by
  simp [cel, arw, h]
theorem cel_z {G : GG} {S : St} {i : Nat} (h : kd i = 23) : cel G S i = .inl (G.2.1 3, ln i, .inl (fun j => i32 (S i j))) := by
  simp [cel, arw, h]
theorem cel_l {G : GG} {S : St} {i : Nat} (h : kd i = 22) : cel G S i = .inl (G.2.1 2, ln i, .inr (.inl (fun j => i64 (S i j)))) := by
  simp [cel, arw, h]
theorem cel_t {G : GG} {S : St} {i : Nat} (h : kd i = 24) : cel G S i = .inl (G.2.1 4, ln i, .inr (.inr (.inr (.inr (fun j => some (G.2.2 (i + 5 + 6 * j))))))) := by
  simp [cel, arw, h]
theorem cel_m {G : GG} {S : St} {i : Nat} (h : kd i = 25) : cel G S i = .inl (G.2.1 5, ln i, .inr (.inr (.inr (.inr (fun j => some (G.2.2 (i + 148 + 3 * j))))))) := by
  simp [cel, arw, h]
theorem y_alen (C : Cx p s m args meth c G own cc nL rt) (hW : Wd G (inj S) H) {k : Nat} (A : AC inj i a k n) (hk2 : 20 ≤ k ∧ k ≤ 23) (hn : in32 n) (hdg : decode cc pc = .ok (.arraylength, 1))
    (kk : ∀ v : Int32, v.toInt = n → W p l e R s m args below meth c H locs cells slots Q (F0 m (pc + 1) ls (.int v :: rest))) : W p l e R s m args below meth c H locs cells slots Q (F0 m pc ls (.ref (G.2.2 i) :: rest)) := by
  obtain ⟨hi, hk, hln, hv⟩ := A
  obtain ⟨⟨hx, hb, hml, hown, hts⟩, hr, hlk, ⟨hK, hN⟩, hG, hZ⟩ := C
  have he := wl_get G (inj S) hi
  have e2 : Int32.ofNat (ln i) = i32 n := by
    rw [← hln]; rfl
  have hk3 : kd i = 20 ∨ kd i = 21 ∨ kd i = 22 ∨ kd i = 23 := by omega
  rcases hk3 with h | h | h | h
  · rw [cel_b h] at he
    exact va_alen hx hb hK hW.2 i 0 he rfl e2 hdg (kk _ (i32_toInt hn))
  · rw [cel_i h] at he
    exact va_alen hx hb hK hW.2 i 1 he rfl e2 hdg (kk _ (i32_toInt hn))
  · rw [cel_l h] at he
    exact va_alen hx hb hK hW.2 i 2 he rfl e2 hdg (kk _ (i32_toInt hn))
  · rw [cel_z h] at he
    exact va_alen hx hb hK hW.2 i 3 he rfl e2 hdg (kk _ (i32_toInt hn))
theorem in_ln {n : Int} {X : Int} (hn : (ln i : Int) = n) (h : 0 ≤ X ∧ X < n) : 0 ≤ X ∧ X < (ln i : Nat) := by rw [hn]; exact h
theorem y_iald (C : Cx p s m args meth c G own cc nL rt) (hW : Wd G (inj S) H) (A : AC inj i a 21 n) {x : Int32} {X : Int} (hx : x.toInt = X) (hin : 0 ≤ X ∧ X < n) (hdg : decode cc pc = .ok (.iaload, 1))
    (kk : ∀ v : Int32, v.toInt = S a X → W p l e R s m args below meth c H locs cells slots Q (F0 m (pc + 1) ls (.int v :: rest))) : W p l e R s m args below meth c H locs cells slots Q (F0 m pc ls (.int x :: .ref (G.2.2 i) :: rest)) := by
  obtain ⟨hi, hk, hln, hv⟩ := A
  have hcx := C
  obtain ⟨⟨hx', hb, hml, hown, hts⟩, hr, hlk, ⟨hK, hN⟩, hG, hZ⟩ := C
  have he := wl_get G (inj S) hi
  rw [cel_i hk] at he
  obtain ⟨h1, h2⟩ := nat_of hx (in_ln hln hin)
  refine va_iald hx' hb hK hW.2 i 1 he rfl h1 hdg (kk _ ?_)
  have h3 := (hW.1 i x.toNatClampNeg).1 (by simp [slt, hk])
  rw [i32_toInt h3, hv.1, h2]
theorem y_bald (C : Cx p s m args meth c G own cc nL rt) (hW : Wd G (inj S) H) (A : AC inj i a 20 n) {x : Int32} {X : Int} (hx : x.toInt = X) (hin : 0 ≤ X ∧ X < n) (hdg : decode cc pc = .ok (.baload, 1))
    (kk : ∀ v : Int32, v.toInt = S a X → W p l e R s m args below meth c H locs cells slots Q (F0 m (pc + 1) ls (.int v :: rest))) : W p l e R s m args below meth c H locs cells slots Q (F0 m pc ls (.int x :: .ref (G.2.2 i) :: rest)) := by
  obtain ⟨hi, hk, hln, hv⟩ := A
  obtain ⟨⟨hx', hb, hml, hown, hts⟩, hr, hlk, ⟨hK, hN⟩, hG, hZ⟩ := C
  have he := wl_get G (inj S) hi
  rw [cel_b hk] at he
  obtain ⟨h1, h2⟩ := nat_of hx (in_ln hln hin)
  refine va_bald hx' hb hK hW.2 i 0 he rfl h1 hdg (kk _ ?_)
  have h3 := (hW.1 i x.toNatClampNeg).1 (by simp [slt, hk])
  rw [i32_toInt h3, hv.1, h2]
theorem y_zald (C : Cx p s m args meth c G own cc nL rt) (hW : Wd G (inj S) H) (A : AC inj i a 23 n) {x : Int32} {X : Int} (hx : x.toInt = X) (hin : 0 ≤ X ∧ X < n) (hdg : decode cc pc = .ok (.baload, 1))
    (kk : ∀ v : Int32, v.toInt = S a X → W p l e R s m args below meth c H locs cells slots Q (F0 m (pc + 1) ls (.int v :: rest))) : W p l e R s m args below meth c H locs cells slots Q (F0 m pc ls (.int x :: .ref (G.2.2 i) :: rest)) := by
  obtain ⟨hi, hk, hln, hv⟩ := A
  obtain ⟨⟨hx', hb, hml, hown, hts⟩, hr, hlk, ⟨hK, hN⟩, hG, hZ⟩ := C
  have he := wl_get G (inj S) hi
  rw [cel_z hk] at he
  obtain ⟨h1, h2⟩ := nat_of hx (in_ln hln hin)
  refine va_zald hx' hb hK hW.2 i 3 he rfl h1 hdg (kk _ ?_)
  have h3 := (hW.1 i x.toNatClampNeg).1 (by simp [slt, hk])
  rw [i32_toInt h3, hv.1, h2]
theorem y_lald (C : Cx p s m args meth c G own cc nL rt) (hW : Wd G (inj S) H) (A : AC inj i a 22 n) {x : Int32} {X : Int} (hx : x.toInt = X) (hin : 0 ≤ X ∧ X < n) (hdg : decode cc pc = .ok (.laload, 1))
    (kk : ∀ v : Int64, v.toInt = S a X → W p l e R s m args below meth c H locs cells slots Q (F0 m (pc + 1) ls (.long v :: rest))) : W p l e R s m args below meth c H locs cells slots Q (F0 m pc ls (.int x :: .ref (G.2.2 i) :: rest)) := by
  obtain ⟨hi, hk, hln, hv⟩ := A
  obtain ⟨⟨hx', hb, hml, hown, hts⟩, hr, hlk, ⟨hK, hN⟩, hG, hZ⟩ := C
  have he := wl_get G (inj S) hi
  rw [cel_l hk] at he
  obtain ⟨h1, h2⟩ := nat_of hx (in_ln hln hin)
  refine va_lald hx' hb hK hW.2 i 2 he rfl h1 hdg (kk _ ?_)
  have h3 := (hW.1 i x.toNatClampNeg).2 (by simp [slt, hk])
  rw [i64_toInt h3, hv.1, h2]
theorem y_tald (C : Cx p s m args meth c G own cc nL rt) (hW : Wd G (inj S) H) (A : AC inj i a 24 n) {x : Int32} {X : Int} (hx : x.toInt = X) (hin : 0 ≤ X ∧ X < n) (hdg : decode cc pc = .ok (.aaload, 1))
    (kk : W p l e R s m args below meth c H locs cells slots Q (F0 m (pc + 1) ls (.ref (G.2.2 (i + 5 + 6 * X.toNat)) :: rest))) : W p l e R s m args below meth c H locs cells slots Q (F0 m pc ls (.int x :: .ref (G.2.2 i) :: rest)) := by
  obtain ⟨hi, hk, hln, hv⟩ := A
  obtain ⟨⟨hx', hb, hml, hown, hts⟩, hr, hlk, ⟨hK, hN⟩, hG, hZ⟩ := C
  have he := wl_get G (inj S) hi
  rw [cel_t hk] at he
  obtain ⟨h1, h2⟩ := nat_of hx (in_ln hln hin)
  refine va_aldq hx' hb hK hW.2 i 4 he rfl h1 hdg ?_
  have e : x.toNatClampNeg = X.toNat := by omega
  rw [e]
  exact kk
theorem y_mald (C : Cx p s m args meth c G own cc nL rt) (hW : Wd G (inj S) H) (A : AC inj i a 25 n) {x : Int32} {X : Int} (hx : x.toInt = X) (hin : 0 ≤ X ∧ X < n) (hdg : decode cc pc = .ok (.aaload, 1))
    (kk : W p l e R s m args below meth c H locs cells slots Q (F0 m (pc + 1) ls (.ref (G.2.2 (i + 148 + 3 * X.toNat)) :: rest))) : W p l e R s m args below meth c H locs cells slots Q (F0 m pc ls (.int x :: .ref (G.2.2 i) :: rest)) := by
  obtain ⟨hi, hk, hln, hv⟩ := A
  obtain ⟨⟨hx', hb, hml, hown, hts⟩, hr, hlk, ⟨hK, hN⟩, hG, hZ⟩ := C
  have he := wl_get G (inj S) hi
  rw [cel_m hk] at he
  obtain ⟨h1, h2⟩ := nat_of hx (in_ln hln hin)
  refine va_aldq hx' hb hK hW.2 i 5 he rfl h1 hdg ?_
  have e : x.toNatClampNeg = X.toNat := by omega
  rw [e]
  exact kk
theorem upd_i32 {S : St} {i j : Nat} {v : Int32} {X : Int} (hv : v.toInt = X) : (fun k : Nat => i32 (up S i j X i k)) = upd (fun k : Nat => i32 (S i k)) j v := by
  funext k
  unfold upd
  by_cases h : k = j
  · subst h
    rw [up_s, ← hv, i32_of]
    simp
  · have e : ¬ ((i : Int) = i ∧ (k : Int) = j) := fun hh => h (by omega)
    rw [up_n S e]
    simp [h]
theorem upd_i64 {S : St} {i j : Nat} {v : Int64} {X : Int} (hv : v.toInt = X) : (fun k : Nat => i64 (up S i j X i k)) = vp_updL (fun k : Nat => i64 (S i k)) j v := by
  funext k
  unfold vp_updL
  by_cases h : k = j
  · subst h
    rw [up_s, ← hv, i64_of]
    simp
  · have e : ¬ ((i : Int) = i ∧ (k : Int) = j) := fun hh => h (by omega)
    rw [up_n S e]
    simp [h]
theorem y_iast (C : Cx p s m args meth c G own cc nL rt) (hW : Wd G (inj S) H) (hS : va_S (AG G) s.heap H locs) (A : AC inj i a 21 n) {x v : Int32} {X V : Int} (hx : x.toInt = X) (hv1 : v.toInt = V) (hin : 0 ≤ X ∧ X < n) (hdg : decode cc pc = .ok (.iastore, 1))
    (kk : ∀ (H1 : Heap) (locs1 : List Loc), Wd G (inj (up S a X V)) H1 → va_S (AG G) s.heap H1 locs1 → W p l e R s m args below meth c H1 locs1 cells slots Q (F0 m (pc + 1) ls rest)) : W p l e R s m args below meth c H locs cells slots Q (F0 m pc ls (.int v :: .int x :: .ref (G.2.2 i) :: rest)) := by
  obtain ⟨hi, hk, hln, hv⟩ := A
  obtain ⟨⟨hx', hb, hml, hown, hts⟩, hr, hlk, ⟨hK, hN⟩, hG, hZ⟩ := C
  have he := wl_get G (inj S) hi
  rw [cel_i hk] at he
  obtain ⟨h1, h2⟩ := nat_of hx (in_ln hln hin)
  refine va_iast hx' hb hK hW.2 (wl_D hG _) hS i 1 he rfl h1 hdg (fun H1 locs1 hP1 hD1 hS1 => kk H1 locs1 ⟨?_, ?_⟩ hS1)
  · rw [hv.2, ← h2]
    exact rng_up hW.1 (fun _ => by rw [← hv1]; exact in32_toInt v) (fun h => by simp [slt, hk] at h)
  · rw [hv.2, ← h2]
    rw [wl_set G (inj S) (up (inj S) i x.toNatClampNeg V) _ (by rw [cel_i hk, upd_i32 hv1]) (fun j _ h => cel_up_ne (cast_ne h))] at hP1
    exact hP1
theorem y_zast (C : Cx p s m args meth c G own cc nL rt) (hW : Wd G (inj S) H) (hS : va_S (AG G) s.heap H locs) (A : AC inj i a 23 n) {x v : Int32} {X V : Int} (hx : x.toInt = X) (hv1 : v.toInt = V) (h01 : V = 0 ∨ V = 1) (hin : 0 ≤ X ∧ X < n) (hdg : decode cc pc = .ok (.bastore, 1))
    (kk : ∀ (H1 : Heap) (locs1 : List Loc), Wd G (inj (up S a X V)) H1 → va_S (AG G) s.heap H1 locs1 → W p l e R s m args below meth c H1 locs1 cells slots Q (F0 m (pc + 1) ls rest)) : W p l e R s m args below meth c H locs cells slots Q (F0 m pc ls (.int v :: .int x :: .ref (G.2.2 i) :: rest)) := by
  obtain ⟨hi, hk, hln, hv⟩ := A
  obtain ⟨⟨hx', hb, hml, hown, hts⟩, hr, hlk, ⟨hK, hN⟩, hG, hZ⟩ := C
  have he := wl_get G (inj S) hi
  rw [cel_z hk] at he
  obtain ⟨h1, h2⟩ := nat_of hx (in_ln hln hin)
  have hnar : vp_nar .boolean v = v := by
    unfold vp_nar
    rw [vp_nar_bool01 hv1 h01]
  refine va_zast hx' hb hK hW.2 (wl_D hG _) hS i 3 he rfl h1 hdg (fun H1 locs1 hP1 hD1 hS1 => kk H1 locs1 ⟨?_, ?_⟩ hS1)
  · rw [hv.2, ← h2]
    exact rng_up hW.1 (fun _ => by rw [← hv1]; exact in32_toInt v) (fun h => by simp [slt, hk] at h)
  · rw [hv.2, ← h2]
    rw [hnar] at hP1
    rw [wl_set G (inj S) (up (inj S) i x.toNatClampNeg V) _ (by rw [cel_z hk, upd_i32 hv1]) (fun j _ h => cel_up_ne (cast_ne h))] at hP1
    exact hP1
theorem y_bast (C : Cx p s m args meth c G own cc nL rt) (hW : Wd G (inj S) H) (hS : va_S (AG G) s.heap H locs) (A : AC inj i a 20 n) {x v : Int32} {X V : Int} (hx : x.toInt = X) (hv1 : v.toInt = V) (hin : 0 ≤ X ∧ X < n) (hdg : decode cc pc = .ok (.bastore, 1))
    (kk : ∀ (H1 : Heap) (locs1 : List Loc), Wd G (inj (up S a X (sb8 V))) H1 → va_S (AG G) s.heap H1 locs1 → W p l e R s m args below meth c H1 locs1 cells slots Q (F0 m (pc + 1) ls rest)) : W p l e R s m args below meth c H locs cells slots Q (F0 m pc ls (.int v :: .int x :: .ref (G.2.2 i) :: rest)) := by
  obtain ⟨hi, hk, hln, hv⟩ := A
  obtain ⟨⟨hx', hb, hml, hown, hts⟩, hr, hlk, ⟨hK, hN⟩, hG, hZ⟩ := C
  have he := wl_get G (inj S) hi
  rw [cel_b hk] at he
  obtain ⟨h1, h2⟩ := nat_of hx (in_ln hln hin)
  have hv2 : (vp_nar .byte v).toInt = sb8 V := by
    rw [vp_nar_byte]
    exact ti_sb8 hv1
  refine va_bast hx' hb hK hW.2 (wl_D hG _) hS i 0 he rfl h1 hdg (fun H1 locs1 hP1 hD1 hS1 => kk H1 locs1 ⟨?_, ?_⟩ hS1)
  · rw [hv.2, ← h2]
    exact rng_up hW.1 (fun _ => by rw [← hv2]; exact in32_toInt _) (fun h => by simp [slt, hk] at h)
  · rw [hv.2, ← h2]
    rw [wl_set G (inj S) (up (inj S) i x.toNatClampNeg (sb8 V)) _ (by rw [cel_b hk, upd_i32 hv2]) (fun j _ h => cel_up_ne (cast_ne h))] at hP1
    exact hP1
theorem y_last (C : Cx p s m args meth c G own cc nL rt) (hW : Wd G (inj S) H) (hS : va_S (AG G) s.heap H locs) (A : AC inj i a 22 n) {x : Int32} {v : Int64} {X V : Int} (hx : x.toInt = X) (hv1 : v.toInt = V) (hin : 0 ≤ X ∧ X < n) (hdg : decode cc pc = .ok (.lastore, 1))
    (kk : ∀ (H1 : Heap) (locs1 : List Loc), Wd G (inj (up S a X V)) H1 → va_S (AG G) s.heap H1 locs1 → W p l e R s m args below meth c H1 locs1 cells slots Q (F0 m (pc + 1) ls rest)) : W p l e R s m args below meth c H locs cells slots Q (F0 m pc ls (.long v :: .int x :: .ref (G.2.2 i) :: rest)) := by
  obtain ⟨hi, hk, hln, hv⟩ := A
  obtain ⟨⟨hx', hb, hml, hown, hts⟩, hr, hlk, ⟨hK, hN⟩, hG, hZ⟩ := C
  have he := wl_get G (inj S) hi
  rw [cel_l hk] at he
  obtain ⟨h1, h2⟩ := nat_of hx (in_ln hln hin)
  refine va_last hx' hb hK hW.2 (wl_D hG _) hS i 2 he rfl h1 hdg (fun H1 locs1 hP1 hD1 hS1 => kk H1 locs1 ⟨?_, ?_⟩ hS1)
  · rw [hv.2, ← h2]
    exact rng_up hW.1 (fun h => by simp [slt, hk] at h) (fun _ => by rw [← hv1]; exact in64_toInt v)
  · rw [hv.2, ← h2]
    rw [wl_set G (inj S) (up (inj S) i x.toNatClampNeg V) _ (by rw [cel_l hk, upd_i64 hv1]) (fun j _ h => cel_up_ne (cast_ne h))] at hP1
    exact hP1
end Arr
