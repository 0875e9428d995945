/-! the start: the range of what stands, the world, the addresses apart -/
theorem C0_b (a j : Int) : 0 ≤ C0 a j ∧ C0 a j ≤ 665 := by
  unfold C0
  split
  · omega
  split
  · omega
  split
  · omega
  split
  · omega
  split
  · omega
  split
  · omega
  split
  · omega
  split
  · omega
  split
  · omega
  split
  · omega
  · omega
theorem wv_b : ∀ k : Nat, k < 14 → -9223372036854775808 ≤ wv.getD k 0 ∧ wv.getD k 0 < 9223372036854775808 := by decide +kernel
theorem rng00 : rng S00 := by
  intro i j
  by_cases h : (i : Int) < 1042
  · have b := C0_b i j
    rw [S00_c h]
    exact ⟨fun _ => ⟨by omega, by omega⟩, fun _ => ⟨by omega, by omega⟩⟩
  · by_cases h2 : (i : Int) = 1044
    · have e : i = 1044 := by omega
      subst e
      have es : slt 1044 j = 1 := by
        unfold slt
        rw [show kd 1044 = 22 by decide +kernel]
        rfl
      refine ⟨fun w => by rw [es] at w; exact absurd w (by decide), fun _ => ?_⟩
      have e2 : S00 ((1044 : Nat) : Int) j = R0 2 j := by
        unfold S00 cmb
        rw [if_neg (by decide)]
        rfl
      rw [e2]
      unfold R0
      by_cases c : (j : Int) < 14
      · rw [if_pos ⟨rfl, by omega, c⟩]
        have := wv_b j (by omega)
        rw [show ((j : Int)).toNat = j by omega]
        exact this
      · rw [if_neg (fun w => c w.2.2)]
        exact ⟨by decide, by decide⟩
    · rw [S00_r (by omega) h2]
      exact ⟨fun _ => ⟨by decide, by decide⟩, fun _ => ⟨by decide, by decide⟩⟩
section World3
variable {G : GG} {H : Heap}
theorem Wd_start (h7 : va_P G.1 vwCl (vX7 G (G.2.2 0) G.2.2) H) (h8 : va_P G.1 vwCl (vX8 G (G.2.2 1042) (fun k => G.2.2 (1042 + k))) H) : Wd G S00 H := by
  refine ⟨rng00, fun k q hk => ?_⟩
  have h1 : k < NN := by
    have := (List.getElem?_eq_some_iff.mp hk).1
    simpa [wl] using this
  rw [wl_get G S00 h1] at hk
  cases hk
  by_cases c : k < 1042
  · exact cls_cells h7 k c
  · have h2 : k < 1083 := h1
    obtain ⟨r, hr, e⟩ : ∃ r, r < 41 ∧ k = 1042 + r := ⟨k - 1042, by omega, by omega⟩
    rw [e]
    exact ref_cells h8 r hr
end World3
/-- the addresses of a list of cells, in their order -/
def AL (L : va_W) (n : Nat) (ad : Nat → Nat) : Prop := L.map Prod.fst = (List.range n).map ad
theorem AL_app {L1 L2 : va_W} {n1 n2 : Nat} {ad : Nat → Nat} (h1 : AL L1 n1 ad) (h2 : AL L2 n2 (fun k => ad (n1 + k))) : AL (L1 ++ L2) (n1 + n2) ad := by
  unfold AL at h1 h2 ⊢
  rw [List.map_append, h1, h2]
  apply List.ext_getElem?
  intro k
  by_cases c : k < n1
  · rw [List.getElem?_append_left (by simpa using c)]
    simp [c, show k < n1 + n2 by omega]
  · rw [List.getElem?_append_right (by simp; omega)]
    by_cases d : k < n1 + n2
    · simp [d, show k - n1 < n2 by omega, show n1 + (k - n1) = k by omega]
    · simp [d, show ¬ k - n1 < n2 by omega]
theorem AL_cg {L : va_W} {n : Nat} {a b : Nat → Nat} (h : ∀ k, a k = b k) (hL : AL L n a) : AL L n b := by
  have e : a = b := funext h
  subst e
  exact hL
theorem AL_T (G : GG) {b : Nat → Nat → Nat} {a : Nat → Nat} (hb : ∀ j r, b j r = a (6 * j + r)) (i : Nat) : AL (TLs G b i) (6 * i) a := by
  induction i with
  | zero => rfl
  | succ i ih =>
    rw [TLs_succ]
    refine AL_app ih ?_
    exact AL_cg (a := b i) (fun k => hb i k) rfl
theorem AL_M (G : GG) {b : Nat → Nat → Nat} {a : Nat → Nat} (hb : ∀ j r, b j r = a (3 * j + r)) (i : Nat) : AL (MLs G b i) (3 * i) a := by
  induction i with
  | zero => rfl
  | succ i ih =>
    rw [MLs_succ]
    refine AL_app ih ?_
    exact AL_cg (a := b i) (fun k => hb i k) rfl
theorem AL_2 (G : GG) {h0 : Nat} {ad : Nat → Nat} (h : h0 = ad 0) : AL (vX2 G h0 ad) 513 ad := by
  unfold vX2
  refine AL_app (n1 := 150) (n2 := 363) (AL_app (n1 := 6) (n2 := 144) ?_ ?_) ?_
  · rw [h]; rfl
  · exact AL_T G (a := fun k => ad (6 + k)) (fun j r => by rw [Nat.add_assoc]) 24
  · exact AL_M G (a := fun k => ad (150 + k)) (fun j r => by rw [Nat.add_assoc]) 121
theorem AL_7 (G : GG) {h0 : Nat} {ad : Nat → Nat} (h : h0 = ad 0) : AL (vX7 G h0 ad) 1042 ad := by
  unfold vX7
  refine AL_app (n1 := 1037) (n2 := 5) (AL_app (n1 := 1032) (n2 := 5) (AL_app (n1 := 1028) (n2 := 4) (AL_app (n1 := 515) (n2 := 513) ?_ ?_) ?_) ?_) ?_
  · refine AL_app (L1 := [_, _]) (n1 := 2) (n2 := 513) ?_ ?_
    · rw [h]; rfl
    · exact AL_2 G (h0 := ad 2) (ad := fun k => ad (2 + k)) rfl
  · exact AL_2 G (h0 := ad 515) (ad := fun k => ad (515 + k)) rfl
  · rfl
  · rfl
  · rfl
theorem AL_8 (G : GG) {h0 : Nat} {ad : Nat → Nat} (h : h0 = ad 0) : AL (vX8 G h0 ad) 41 ad := by
  rw [vX8_eq, h]
  rfl
theorem AL_at {L : va_W} {n : Nat} {ad : Nat → Nat} (h : AL L n ad) {k : Nat} (hk : k < n) : ∃ e : va_E, L[k]? = some (ad k, e) := by
  have h1 : (L.map Prod.fst)[k]? = some (ad k) := by
    rw [h]
    simp [hk]
  rw [List.getElem?_map] at h1
  cases hq : L[k]? with
  | none => rw [hq] at h1; cases h1
  | some q =>
    rw [hq] at h1
    have : q.1 = ad k := Option.some.inj h1
    exact ⟨q.2, by rw [← this]⟩
theorem okG_of {G : GG} {A : Nat → Prop} (hD : va_D A (vX7 G (G.2.2 0) G.2.2 ++ vX8 G (G.2.2 1042) (fun k => G.2.2 (1042 + k)))) : okG G ∧ ∀ q, AG G q → A q := by
  have a : AL (vX7 G (G.2.2 0) G.2.2 ++ vX8 G (G.2.2 1042) (fun k => G.2.2 (1042 + k))) (1042 + 41) G.2.2 := AL_app (AL_7 G rfl) (AL_8 G rfl)
  refine ⟨fun i j hi hj e => ?_, fun q hq => ?_⟩
  · obtain ⟨x, hx⟩ := AL_at a (show i < 1042 + 41 from hi)
    obtain ⟨y, hy⟩ := AL_at a (show j < 1042 + 41 from hj)
    exact hD.1 _ _ _ _ hx hy e
  · obtain ⟨i, hi, e⟩ := hq
    obtain ⟨x, hx⟩ := AL_at a (show i < 1042 + 41 from hi)
    rw [e]
    exact hD.2 _ _ hx
/-- the two makers' addresses as one row -/
def adG (q7 q8 : Nat) (a7 a8 : Nat → Nat) : Nat → Nat := fun k => if k < 1042 then (if k = 0 then q7 else a7 k) else (if k = 1042 then q8 else a8 (k - 1042))
theorem G_7 (D : va_G) (cI : Nat → ClassId) (z : Nat → Nat) (q7 q8 : Nat) (a7 a8 : Nat → Nat) : vX7 (D, cI, adG q7 q8 a7 a8) (adG q7 q8 a7 a8 0) (adG q7 q8 a7 a8) = vX7 (D, cI, z) q7 a7 := by
  have e : vX7 (D, cI, adG q7 q8 a7 a8) (adG q7 q8 a7 a8 0) (adG q7 q8 a7 a8) = vX7 (D, cI, z) q7 (adG q7 q8 a7 a8) := rfl
  rw [e]
  exact vX7_cg _ _ (fun k k0 k1 => by unfold adG; rw [if_pos k1, if_neg (by omega)])
theorem vX8_cg (G : GG) (h0 : Nat) {a a' : Nat → Nat} (h : ∀ k, 1 ≤ k → k < 41 → a' k = a k) : vX8 G h0 a' = vX8 G h0 a := by
  have e : ∀ k, 1 ≤ k → k < 41 → a' k = a k := h
  unfold vX8
  rw [e 1 (by decide) (by decide), e 2 (by decide) (by decide), e 3 (by decide) (by decide), e 4 (by decide) (by decide), e 5 (by decide) (by decide), e 6 (by decide) (by decide), e 7 (by decide) (by decide), e 8 (by decide) (by decide), e 9 (by decide) (by decide), e 10 (by decide) (by decide), e 11 (by decide) (by decide), e 12 (by decide) (by decide), e 13 (by decide) (by decide), e 14 (by decide) (by decide), e 15 (by decide) (by decide), e 16 (by decide) (by decide), e 17 (by decide) (by decide), e 18 (by decide) (by decide), e 19 (by decide) (by decide), e 20 (by decide) (by decide), e 21 (by decide) (by decide), e 22 (by decide) (by decide), e 23 (by decide) (by decide), e 24 (by decide) (by decide), e 25 (by decide) (by decide), e 26 (by decide) (by decide), e 27 (by decide) (by decide), e 28 (by decide) (by decide), e 29 (by decide) (by decide), e 30 (by decide) (by decide), e 31 (by decide) (by decide), e 32 (by decide) (by decide), e 33 (by decide) (by decide), e 34 (by decide) (by decide), e 35 (by decide) (by decide), e 36 (by decide) (by decide), e 37 (by decide) (by decide), e 38 (by decide) (by decide), e 39 (by decide) (by decide), e 40 (by decide) (by decide)]
theorem G_8 (D : va_G) (cI : Nat → ClassId) (z : Nat → Nat) (q7 q8 : Nat) (a7 a8 : Nat → Nat) : vX8 (D, cI, adG q7 q8 a7 a8) (adG q7 q8 a7 a8 1042) (fun k => adG q7 q8 a7 a8 (1042 + k)) = vX8 (D, cI, z) q8 a8 := by
  have e : vX8 (D, cI, adG q7 q8 a7 a8) (adG q7 q8 a7 a8 1042) (fun k => adG q7 q8 a7 a8 (1042 + k)) = vX8 (D, cI, z) q8 (fun k => adG q7 q8 a7 a8 (1042 + k)) := rfl
  rw [e]
  exact vX8_cg _ _ (fun k k0 k1 => by unfold adG; rw [if_neg (by omega), if_neg (by omega), show 1042 + k - 1042 = k by omega])
