/-! pure: feed and trim, both -/
theorem Sim.tape {SC SR SC' SR' : St} (h : Sim SC SR) (c : offT SC SC') (g : offT SR SR') (t : SimT SC' SR') (y : byR SR') : Sim SC' SR' := by
  obtain ⟨E, D, b, hf, s1, s2, s3, P, R, K, s4, s5, s6⟩ := h
  have hb := P.2.2.1
  refine ⟨E, D, b, hf, t, ?_, ?_, ⟨fun a j x y => (c a j (by omega) (by omega)).trans (P.1 a j x y), (c 0 4 (by omega) (by omega)).trans P.2.1, P.2.2⟩, ⟨fun a j x y => (g a j (by omega) (by omega)).trans (R.1 a j x y), (g 0 11 (by omega) (by omega)).trans R.2.1, R.2.2⟩, K, ?_, ?_, ?_, y, s6.2.2⟩
  · rw [c 0 2 (by omega) (by omega), g 0 2 (by omega) (by omega)]; exact s2
  · rw [c 0 3 (by omega) (by omega), g 0 59 (by omega) (by omega)]; exact s3
  · rw [c 0 5 (by omega) (by omega)]; exact s4
  · intro t t0 t1
    rw [c _ _ (by unfold ty; omega) (by unfold ty; omega), c _ _ (by unfold ty; omega) (by unfold ty; omega)]
    exact s5 t t0 t1
  · intro i hi
    rw [g 2 i (by omega) (by omega)]
    exact s6.1 i hi
theorem byt_rng (x q : Int) : -128 ≤ byt x q ∧ byt x q < 128 := by
  unfold byt
  rw [sb8_eq]
  omega
theorem byR_fed {S S' : St} {n x1 x2 x3 x4 x5 : Int} (h : byR S) (hn : S 0 1 = n) (f : fed S S' n x1 x2 x3 x4 x5) : byR S' := by
  obtain ⟨_, c1, c2, c3⟩ := f
  intro j j0 j1
  by_cases hj : j < n
  · rw [c2 j hj]; exact h j j0 (by omega)
  · have hc3 := c3 ((j - n) % 4) (by omega) (by omega)
    have hd : (j - n) / 4 = 0 ∨ (j - n) / 4 = 1 ∨ (j - n) / 4 = 2 ∨ (j - n) / 4 = 3 ∨ (j - n) / 4 = 4 := by omega
    rcases hd with hd | hd | hd | hd | hd
    · have e : j = n + (j - n) % 4 := by omega
      rw [e, hc3.1]; exact byt_rng _ _
    · have e : j = n + 4 + (j - n) % 4 := by omega
      rw [e, hc3.2.1]; exact byt_rng _ _
    · have e : j = n + 8 + (j - n) % 4 := by omega
      rw [e, hc3.2.2.1]; exact byt_rng _ _
    · have e : j = n + 12 + (j - n) % 4 := by omega
      rw [e, hc3.2.2.2.1]; exact byt_rng _ _
    · have e : j = n + 16 + (j - n) % 4 := by omega
      rw [e, hc3.2.2.2.2]; exact byt_rng _ _
theorem Sim.t {SC SR : St} (h : Sim SC SR) : SimT SC SR ∧ byR SR := by
  obtain ⟨E, D, b, hf, s1, s2, s3, P, R, K, s4, s5, s6⟩ := h
  exact ⟨s1, s6.2.1⟩
theorem J_feed {SC SR : St} (h : Sim SC SR) (x1 x2 x3 x4 x5 : Int) : wX7_feed SC x1 x2 x3 x4 x5 (fun r SC' => wX8_feed SR x1 x2 x3 x4 x5 (fun r' SR' => r = r' ∧ Sim SC' SR')) := by
  obtain ⟨t, y⟩ := h.t
  obtain ⟨n, hn⟩ : ∃ n, SR 0 1 = n := ⟨_, rfl⟩
  have hc : SC 0 1 = n := t.1.trans hn
  have h0 : 0 ≤ n ∧ n ≤ 4000 := by rw [← hn]; exact t.2.1
  refine C_feed hc h0 (fun z => R_feed hn h0 (fun _ => ⟨rfl, h⟩) (fun z2 => by omega)) (fun z SC' fc => R_feed hn h0 (fun z2 => by omega) (fun _ SR' fr => ⟨rfl, ?_⟩))
  exact h.tape fc.1 fr.1 (SimT_fed t hn z fc fr) (byR_fed y hn fr)
theorem J_trim {SC SR : St} (h : Sim SC SR) (n : Int) : wX7_trim SC n (fun r SC' => wX8_trim SR n (fun r' SR' => r = r' ∧ Sim SC' SR')) := by
  obtain ⟨t, y⟩ := h.t
  have e := t.1
  have t2 := t.2.1
  refine C_trim ⟨fun z => R_trim ⟨fun _ => ⟨rfl, h⟩, fun z1 z2 => by omega⟩, fun z1 z2 => R_trim ⟨fun z => by omega, fun _ _ => ⟨rfl, ?_⟩⟩⟩
  refine h.tape offT.up0 offT.up0 ⟨by rw [up_s, up_s], by rw [up_s]; omega, fun j j0 j1 => ?_⟩ (fun j j0 j1 => ?_)
  · rw [up_s] at j1
    rw [up_n _ (by omega), up_n _ (by omega)]
    exact t.2.2 j j0 (by omega)
  · rw [up_s] at j1
    rw [up_n _ (by omega)]
    exact y j j0 (by omega)
