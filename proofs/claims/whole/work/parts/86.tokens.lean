/-! pure: reading: the token that both stand at -/
def Tks (T : Int → Int) (n N : Int) (te so va pl : Int → Int) : Prop := (1 ≤ N ∧ N ≤ 4001) ∧ n ≤ 4000 ∧ (∀ j, 0 ≤ j → j < N → Tok T n (te j) (rsrt (so j)) (va j) (pl j) (te (j + 1)) ∧ srtOK (so j) ∧ 0 ≤ te j) ∧ ∀ j, 0 ≤ j → j < N → (so j = 0 ↔ j = N - 1)
def CTk (N : Int) (so va pl : Int → Int) (S : St) (i : Int) : Prop := (0 ≤ i ∧ i < N) ∧ S 1028 3 = N ∧ S 1029 = so ∧ S 1030 = va ∧ S 1031 = pl ∧ S 1032 4 = i ∧ S 1032 5 = so i ∧ S 1032 6 = va i
def RTk (T : Int → Int) (n : Int) (te so va pl : Int → Int) (S : St) (i : Int) : Prop := S 1 = T ∧ S 0 1 = n ∧ wds S ∧ S 0 4 = te (i + 1) ∧ S 0 5 = rsrt (so i) ∧ S 0 6 = pl i ∧ (so i = 2 ∨ so i = 3 → S 0 7 = va i) ∧ S 0 8 = 0
def offAd (S S' : St) : Prop := ∀ a j, ¬ (a = 1032 ∧ 4 ≤ j ∧ j ≤ 6) → S' a j = S a j
/-- a fault is told: by the class, by the reference -/
def FLc (S S' : St) (f p : Int) : Prop := S' 1032 7 = f ∧ S' 1032 8 = p ∧ ∀ a j, ¬ (a = 1032 ∧ (j = 7 ∨ j = 8)) → S' a j = S a j
def FLr (S S' : St) (f p : Int) : Prop := S' 0 8 = f ∧ S' 0 9 = p ∧ ∀ a j, ¬ (a = 0 ∧ (j = 8 ∨ j = 9)) → S' a j = S a j
theorem rsrt_inj {x y : Int} (hx : srtOK x) (hy : srtOK y) : rsrt x = rsrt y ↔ x = y := by
  unfold srtOK at hx hy
  unfold rsrt
  split <;> split <;> omega
theorem FLr_mk (S : St) (f p : Int) : FLr S (up (up S 0 8 f) 0 9 p) f p := by
  refine ⟨?_, ?_, fun a j h => ?_⟩
  · rw [up_n _ (by omega), up_s]
  · rw [up_s]
  · rw [up_n _ (by omega), up_n _ (by omega)]
theorem R_fl {S : St} {f p : Int} (g : S 0 8 = 0) : ∃ S', FLr S S' f p ∧ ∀ k : St → Prop, k S' → wX8_fails S f p k := by
  obtain ⟨S', e, r⟩ := R_fails (S := S) (f := f) (p := p) g
  exact ⟨S', by rw [e]; exact FLr_mk S f p, r⟩
/-- behind a fault nothing moves -/
theorem R_fl_no {S : St} {f p : Int} {k : St → Prop} (g : ¬ S 0 8 = 0) (hk : k S) : wX8_fails S f p k := by
  unfold wX8_fails wX8_fails_0
  exact ⟨fun _ => hk, fun z => absurd z g⟩
theorem R_is_no {S : St} {x : Int} {k : Int → Prop} (g : ¬ S 0 8 = 0) (hk : k 0) : wX8_is S x k := by
  unfold wX8_is wX8_is_0
  exact ⟨fun _ => hk, fun z => absurd z g⟩
theorem R_odd_no {S : St} {k : St → Prop} (g : ¬ S 0 8 = 0) (hk : k S) : wX8_odd S k := by
  unfold wX8_odd wX8_odd_0 wX8_odd_14
  exact ⟨fun _ => R_fl_no g hk, fun _ => R_fl_no g hk⟩
theorem R_take_no {S : St} {x : Int} {k : St → Prop} (g : ¬ S 0 8 = 0) (hk : k S) : wX8_take S x k := by
  unfold wX8_take wX8_take_0
  exact R_is_no g ⟨fun _ => R_odd_no g hk, fun z => absurd rfl z⟩
section Tokens
variable {T te so va pl : Int → Int} {n N i : Int} {S SR : St}
theorem CTk.off {S' : St} (C : CTk N so va pl S i) (o : ∀ a j, (1028 ≤ a ∧ a ≤ 1031) ∨ (a = 1032 ∧ 4 ≤ j ∧ j ≤ 6) → S' a j = S a j) : CTk N so va pl S' i := by
  obtain ⟨c1, c2, c3, c4, c5, c6, c7, c8⟩ := C
  refine ⟨c1, ?_, ?_, ?_, ?_, ?_, ?_, ?_⟩
  · rw [o _ _ (by omega)]; exact c2
  · rw [← c3]; exact funext (fun j => o _ _ (by omega))
  · rw [← c4]; exact funext (fun j => o _ _ (by omega))
  · rw [← c5]; exact funext (fun j => o _ _ (by omega))
  · rw [o _ _ (by omega)]; exact c6
  · rw [o _ _ (by omega)]; exact c7
  · rw [o _ _ (by omega)]; exact c8
theorem RTk.off {S' : St} (R : RTk T n te so va pl SR i) (o : ∀ a j, a = 1 ∨ a = 2 ∨ (a = 0 ∧ (j = 1 ∨ (4 ≤ j ∧ j ≤ 8))) → S' a j = SR a j) : RTk T n te so va pl S' i := by
  obtain ⟨c1, c2, c3, c4, c5, c6, c7, c8⟩ := R
  refine ⟨?_, ?_, fun j hj => ?_, ?_, ?_, ?_, fun z => ?_, ?_⟩
  · rw [← c1]; exact funext (fun j => o _ _ (by omega))
  · rw [o _ _ (by omega)]; exact c2
  · rw [o _ _ (by omega)]; exact c3 j hj
  · rw [o _ _ (by omega)]; exact c4
  · rw [o _ _ (by omega)]; exact c5
  · rw [o _ _ (by omega)]; exact c6
  · rw [o _ _ (by omega)]; exact c7 z
  · rw [o _ _ (by omega)]; exact c8
theorem C_adv {k : St → Prop} (K : Tks T n N te so va pl) (C : CTk N so va pl S i) (ne : ¬ so i = 0) (hk : ∀ S', offAd S S' → CTk N so va pl S' (i + 1) → k S') : wX4_advance S k := by
  obtain ⟨c1, c2, c3, c4, c5, c6, c7, c8⟩ := C
  have hN := K.1
  have iN : i < N - 1 := by
    have := (K.2.2.2 i c1.1 c1.2)
    omega
  unfold wX4_advance wX4_advance_0
  rw [c2, c6, w32_eq (by omega) (by omega), w32_eq (by omega) (by omega)]
  refine ⟨fun z => by omega, fun _ S1 e1 => ?_⟩
  unfold wX4_advance_26
  have a4 : S1 1032 4 = i + 1 := by rw [e1, up_s]
  have a29 : S1 1029 = so := by rw [← c3, e1]; exact funext (fun j => up_n _ (by omega))
  rw [a4]
  refine ⟨by omega, fun S2 e2 => ?_⟩
  have b4 : S2 1032 4 = i + 1 := by rw [e2, up_n _ (by omega)]; exact a4
  have b30 : S2 1030 = va := by rw [← c4, e2, e1]; exact funext (fun j => by rw [up_n _ (by omega), up_n _ (by omega)])
  rw [b4]
  refine ⟨by omega, fun S3 e3 => hk S3 (fun a j g => ?_) ⟨by omega, ?_, ?_, ?_, ?_, ?_, ?_, ?_⟩⟩
  · rw [e3, up_n _ (by omega), e2, up_n _ (by omega), e1, up_n _ (by omega)]
  · rw [e3, up_n _ (by omega), e2, up_n _ (by omega), e1, up_n _ (by omega)]; exact c2
  · rw [e3, e2, e1, ← c3]; exact funext (fun j => by rw [up_n _ (by omega), up_n _ (by omega), up_n _ (by omega)])
  · rw [e3, e2, e1, ← c4]; exact funext (fun j => by rw [up_n _ (by omega), up_n _ (by omega), up_n _ (by omega)])
  · rw [e3, e2, e1, ← c5]; exact funext (fun j => by rw [up_n _ (by omega), up_n _ (by omega), up_n _ (by omega)])
  · rw [e3, up_n _ (by omega)]; exact b4
  · rw [e3, up_n _ (by omega), e2, up_s, a29]
  · rw [e3, up_s, b30]
theorem R_nx (K : Tks T n N te so va pl) (hi : 0 ≤ i ∧ i < N) (R : RTk T n te so va pl SR i) (ne : ¬ so i = 0) : ∃ S', (RTk T n te so va pl S' (i + 1) ∧ offN SR S') ∧ ∀ k : St → Prop, k S' → wX8_next SR k := by
  obtain ⟨c1, c2, c3, c4, c5, c6, c7, c8⟩ := R
  have hN := K.1
  have iN : i < N - 1 := by
    have := (K.2.2.2 i hi.1 hi.2)
    omega
  have t := K.2.2.1 (i + 1) (by omega) (by omega)
  obtain ⟨S2, s4, s5, s6, s7, o, r⟩ := R_next (S := SR) c2 K.2.1 c3 c4 t.2.2 (by rw [c1]; exact t.1)
  refine ⟨S2, ⟨⟨?_, ?_, fun j hj => ?_, s4, s5, s6, fun z => s7 ?_, ?_⟩, o⟩, r⟩
  · rw [← c1]; exact funext (fun j => o _ _ (by omega))
  · rw [o _ _ (by omega)]; exact c2
  · rw [o _ _ (by omega)]; exact c3 j hj
  · unfold rsrt
    rcases z with z | z
    · rw [z]; exact Or.inl (by decide)
    · rw [z]; exact Or.inr (by decide)
  · rw [o _ _ (by omega)]; exact c8
theorem C_fl {f : Int} {k : Int → St → Prop} (h4 : N ≤ 4001) (C : CTk N so va pl S i) (hk : ∀ S', FLc S S' f (pl i) → k 0 S') : wX4_fail S f k := by
  obtain ⟨c1, c2, c3, c4, c5, c6, c7, c8⟩ := C
  unfold wX4_fail wX4_fail_0
  intro S1 e1
  have a4 : S1 1032 4 = i := by rw [e1, up_n _ (by omega)]; exact c6
  have a31 : S1 1031 = pl := by rw [← c5, e1]; exact funext (fun j => up_n _ (by omega))
  rw [a4]
  refine ⟨by omega, fun S2 e2 => hk S2 ⟨?_, ?_, fun a j g => ?_⟩⟩
  · rw [e2, up_n _ (by omega), e1, up_s]
  · rw [e2, up_s, a31]
  · rw [e2, up_n _ (by omega), e1, up_n _ (by omega)]
def msf (s : Int) : Int := if s = 1 then 1 else 2
theorem C_misf {k : Int → St → Prop} (h4 : N ≤ 4001) (C : CTk N so va pl S i) (hk : ∀ S', FLc S S' (msf (so i)) (pl i) → k 0 S') : wX4_misfit S k := by
  have c7 := C.2.2.2.2.2.2.1
  unfold wX4_misfit wX4_misfit_0 wX4_misfit_14
  rw [c7]
  unfold msf at hk
  refine ⟨fun z => ?_, fun z => ?_⟩
  · rw [if_neg z] at hk
    exact C_fl h4 C (fun S' g => ⟨Or.inl rfl, hk S' g⟩)
  · rw [if_pos z] at hk
    exact C_fl h4 C (fun S' g => ⟨Or.inl rfl, hk S' g⟩)
theorem R_od (R : RTk T n te so va pl SR i) (ok : srtOK (so i)) : ∃ S', FLr SR S' (msf (so i)) (pl i) ∧ ∀ k : St → Prop, k S' → wX8_odd SR k := by
  obtain ⟨c1, c2, c3, c4, c5, c6, c7, c8⟩ := R
  obtain ⟨S', g, r⟩ := R_fl (S := SR) (f := msf (so i)) (p := pl i) c8
  refine ⟨S', g, fun k hk => ?_⟩
  unfold wX8_odd wX8_odd_0 wX8_odd_14
  rw [c5, c6]
  have e1 : rsrt (so i) = 1 ↔ so i = 1 := by
    have := rsrt_inj ok (y := 1) (by unfold srtOK; omega)
    have e : rsrt 1 = 1 := by decide
    rw [e] at this; exact this
  unfold msf at r
  refine ⟨fun z => ?_, fun z => ?_⟩
  · rw [if_neg (fun w => z (e1.mpr w))] at r; exact r k hk
  · rw [if_pos (e1.mp z)] at r; exact r k hk
theorem R_isS {x y : Int} {k : Int → Prop} (R : RTk T n te so va pl SR i) (ok : srtOK (so i)) (okx : srtOK x) (e : rsrt x = y) (h1 : so i = x → k 1) (h0 : ¬ so i = x → k 0) : wX8_is SR y k := by
  obtain ⟨c1, c2, c3, c4, c5, c6, c7, c8⟩ := R
  unfold wX8_is wX8_is_0
  rw [c5, ← e]
  have i := rsrt_inj ok okx
  exact ⟨fun z => absurd c8 z, fun _ => ⟨fun z => h0 (fun w => z (i.mpr w)), fun z => h1 (i.mp z)⟩⟩
/-- a token that must stand here -/
theorem J_take {x y : Int} {k : Int → St → Prop} (K : Tks T n N te so va pl) (C : CTk N so va pl S i) (R : RTk T n te so va pl SR i) (okx : srtOK x) (x0 : ¬ x = 0) (e : rsrt x = y)
    (h1 : so i = x → ∀ S' SR', offAd S S' → CTk N so va pl S' (i + 1) → offN SR SR' → RTk T n te so va pl SR' (i + 1) → (∀ k : St → Prop, k SR' → wX8_take SR y k) → k 1 S')
    (h0 : ∀ S' SR', FLc S S' (msf (so i)) (pl i) → FLr SR SR' (msf (so i)) (pl i) → (∀ k : St → Prop, k SR' → wX8_take SR y k) → k 0 S') : wX4_take S x k := by
  have c1 := C.1
  have c7 := C.2.2.2.2.2.2.1
  have t := K.2.2.1 i c1.1 c1.2
  unfold wX4_take wX4_take_0
  rw [c7]
  refine ⟨fun z => ?_, fun z => ?_⟩
  · obtain ⟨SR', ⟨g1, g2⟩, r⟩ := R_nx K c1 R (by rw [z]; exact x0)
    refine C_adv K C (by rw [z]; exact x0) (fun S' o C' => h1 z S' SR' o C' g2 g1 (fun k' hk => ?_))
    unfold wX8_take wX8_take_0
    exact R_isS R t.2.1 okx e (fun _ => ⟨fun z => absurd z (by decide), fun _ => r _ hk⟩) (fun w => absurd z w)
  · obtain ⟨SR', g, r⟩ := R_od R t.2.1
    refine C_misf K.1.2 C (fun S' fl => ⟨Or.inl rfl, h0 S' SR' fl g (fun k' hk => ?_)⟩)
    unfold wX8_take wX8_take_0
    exact R_isS R t.2.1 okx e (fun w => absurd w z) (fun _ => ⟨fun _ => r _ hk, fun z => absurd rfl z⟩)
end Tokens
