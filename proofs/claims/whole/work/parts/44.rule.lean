/-! pure: RULE: the reference -/
/-- x comes from where r may call it -/
def gdx (D : St) (h n r x : Int) : Prop := x < 1000 ∨ ∃ t q, (0 ≤ t ∧ t < n) ∧ x = mI D h t q ∧ (D 11 (24 * h + t) = 2 ∨ t ∈ chL D h 24 r)
theorem sOK_of {D : St} {h n r t q x : Int} (W : okW D h n) (ht : 0 ≤ t ∧ t < n) (hx : x = mI D h t q) (x0 : 0 ≤ x) (hs : ¬ shp D h x = 1) (g : D 11 (24 * h + t) = 2 ∨ t ∈ chL D h 24 r) : sOK D h x r := by
  have hTU := W.1.2 t ht.1 ht.2
  have x0' := x0
  rw [hx] at x0'
  obtain ⟨a1, a2, a3, a4⟩ := mI_rng W ht x0'
  have ok := mI_okX hTU.1 hTU.2 x0'
  rw [← hx] at a1 a2 a3 a4 ok
  refine ⟨x0, ok, ?_⟩
  by_cases c : acc D h x = 0
  · refine Or.inl ⟨c, ?_⟩
    by_cases d : x < 1000
    · exact d
    · exact absurd c (a4 (by omega)).2.2.1
  · refine Or.inr ⟨⟨hs, c⟩, fun e => ?_, fun e => ?_⟩
    · rw [a1] at e
      have := a3 e
      omega
    · rw [a1] at e
      rcases g with g | g
      · exact absurd g e
      · unfold Lm
        exact List.mem_map.mpr ⟨t, g, a2⟩
theorem gdx_sOK {D : St} {h n r x : Int} (W : okW D h n) (g : gdx D h n r x) (hx : 1000 ≤ x) : okX D h x ∧ sOK D h (mem D h x) r := by
  rcases g with g | ⟨t, q, ht, e, g⟩
  · omega
  · have hTU := W.1.2 t ht.1 ht.2
    have x0 : 0 ≤ mI D h t q := by omega
    have ok := mI_okX hTU.1 hTU.2 x0
    obtain ⟨a1, a2, a3, a4⟩ := mI_rng W ht x0
    rw [← e] at ok a4
    obtain ⟨b1, b2, b3, b4, b5, b6, b7, b8⟩ := a4 hx
    have hV := (W.2 t ht.1 ht.2).2.2.2.2.1 _ b4 b5
    have hF := hTU.1.2.1
    refine ⟨ok, sOK_of (q := mem D h x) W ht hV.2.1.symm (by omega) ?_ g⟩
    unfold shp
    rw [if_pos (by omega)]
    exact b6
theorem gdx_sel {D : St} {h n r f : Int} (W : okW D h n) (hr : 0 ≤ r ∧ r < n) (K : sOK D h f r) : gdx D h n r (sel D h f r) := by
  unfold sel
  split
  · rename_i c
    rcases K.2.2 with K | K
    · exact Or.inl K.2
    · exact absurd c K.1.2
  · split
    · rename_i x hx
      unfold rns
      split
      · exact Or.inl (by decide)
      · have hmem : x ∈ Lm D h r (sby D h f) := by
          have h1 : ∀ L : List Int, ∀ y ∈ rps D h f L, y ∈ L := by
            intro L
            induction L with
            | nil => intro y hy; rw [rps] at hy; exact absurd hy (List.not_mem_nil)
            | cons z zs ih =>
              intro y hy
              by_cases c : z = f ∨ (0 ≤ z ∧ plain D h z ∧ (1 < acc D h f ∨ ∃ w, w ∈ rps D h f zs ∧ rl D h z w))
              · rw [rps_pos c] at hy
                rcases List.mem_cons.mp hy with e | e
                · rw [e]; exact List.mem_cons_self
                · exact List.mem_cons_of_mem _ (ih y e)
              · rw [rps_neg c] at hy
                exact List.mem_cons_of_mem _ (ih y hy)
          exact h1 _ _ (List.mem_of_head? hx)
        by_cases x0 : 0 ≤ x
        · obtain ⟨c, h1, h2, h3, _⟩ := Lm_ok W hr x hmem x0
          exact Or.inr ⟨c, _, h2, h3, Or.inr h1⟩
        · exact Or.inl (by omega)
    · unfold sol
      split
      · exact Or.inl (by decide)
      · rename_i x hx
        have h1 : x ∈ bdL D h (caL D h r (sby D h f)) := by rw [hx]; exact List.mem_cons_self
        have h2 : x ∈ caL D h r (sby D h f) := spN_sub D h _ _ (Nat.le_refl _) x (List.mem_filter.mp h1).1
        have h3 : ∀ N : Nat, (N : Int) ≤ D 20 (24 * h + r) → ∀ x ∈ caN D h r (sby D h f) N, ∃ t, (0 ≤ t ∧ t < n) ∧ x = mI D h t (sby D h f) ∧ D 11 (24 * h + t) = 2 := by
          intro N
          induction N with
          | zero => intro _ x hx; exact absurd hx (List.not_mem_nil)
          | succ N ih =>
            intro hN x hx
            rcases List.mem_append.mp hx with e | e
            · exact ih (by omega) x e
            · by_cases c : D 11 (24 * h + ab D h r N) = 2 ∧ 0 ≤ mI D h (ab D h r N) (sby D h f) ∧ plain D h (mI D h (ab D h r N) (sby D h f))
              · rw [cnd_pos c.1 c.2.1 c.2.2] at e
                have hU := (W.1.2 r hr.1 hr.2).2.2.2.1 N (by omega) (by omega)
                exact ⟨ab D h r N, by omega, List.mem_singleton.mp e, c.1⟩
              · rw [cnd_neg c] at e; exact absurd e (List.not_mem_nil)
        have hU := (W.1.2 r hr.1 hr.2).2.2.1
        obtain ⟨t, t1, t2, t3⟩ := h3 (D 20 (24 * h + r)).toNat (by omega) x h2
        exact Or.inr ⟨t, _, t1, t2, Or.inl t3⟩
      · exact Or.inl (by decide)
theorem caL_mem {D : St} {h n r q : Int} (W : okW D h n) (hr : 0 ≤ r ∧ r < n) : ∀ x ∈ caL D h r q, ∃ t, (0 ≤ t ∧ t < n) ∧ x = mI D h t q ∧ 0 ≤ x ∧ D 11 (24 * h + t) = 2 ∧ okX D h x ∧ plain D h x := by
  intro x hx
  have h3 : ∀ N : Nat, (N : Int) ≤ D 20 (24 * h + r) → ∀ x ∈ caN D h r q N, ∃ t, (0 ≤ t ∧ t < n) ∧ x = mI D h t q ∧ 0 ≤ x ∧ D 11 (24 * h + t) = 2 ∧ okX D h x ∧ plain D h x := by
    intro N
    induction N with
    | zero => intro _ x hx; exact absurd hx (List.not_mem_nil)
    | succ N ih =>
      intro hN x hx
      rcases List.mem_append.mp hx with e | e
      · exact ih (by omega) x e
      · by_cases c : D 11 (24 * h + ab D h r N) = 2 ∧ 0 ≤ mI D h (ab D h r N) q ∧ plain D h (mI D h (ab D h r N) q)
        · rw [cnd_pos c.1 c.2.1 c.2.2] at e
          have hU := (W.1.2 r hr.1 hr.2).2.2.2.1 N (by omega) (by omega)
          have hTU := W.1.2 (ab D h r N) hU.1 (by omega)
          have e := List.mem_singleton.mp e
          refine ⟨ab D h r N, by omega, e, by rw [e]; exact c.2.1, c.1, ?_, ?_⟩
          · rw [e]; exact mI_okX hTU.1 hTU.2 c.2.1
          · rw [e]; exact c.2.2
        · rw [cnd_neg c] at e; exact absurd e (List.not_mem_nil)
  have hU := (W.1.2 r hr.1 hr.2).2.2.1
  exact h3 (D 20 (24 * h + r)).toNat (by omega) x hx
theorem lkC_mem {D : St} {h n q : Int} (W : okW D h n) (N : Nat) : ∀ c, c < n → 0 ≤ lkC D h q N c → ∃ t, t ∈ chL D h N c ∧ (0 ≤ t ∧ t < n) ∧ lkC D h q N c = mI D h t q := by
  induction N with
  | zero => intro c _ g; simp only [lkC] at g; omega
  | succ N ih =>
    intro c hc g
    simp only [lkC] at g ⊢
    by_cases e : c < 0
    · rw [if_pos e] at g; omega
    · rw [if_neg e] at g ⊢
      rw [chL_cons (by omega)]
      by_cases d : 0 ≤ mI D h c q
      · rw [if_pos d]
        exact ⟨c, List.mem_cons_self, by omega, rfl⟩
      · rw [if_neg d] at g ⊢
        have hU := (W.1.2 c (by omega) hc).2.1
        obtain ⟨t, h1, h2, h3⟩ := ih _ (by omega) g
        exact ⟨t, List.mem_cons_of_mem _ h1, h2, h3⟩
theorem fnd_mem {D : St} {h n t q : Int} (W : okW D h n) (ht : 0 ≤ t ∧ t < n) (g : 0 ≤ fnd D h t q) : ∃ u, (0 ≤ u ∧ u < n) ∧ fnd D h t q = mI D h u q ∧ (D 11 (24 * h + u) = 2 ∨ u ∈ chL D h 24 t) := by
  unfold fnd at g ⊢
  by_cases c : 0 ≤ lkC D h q 24 t
  · rw [if_pos c]
    obtain ⟨u, h1, h2, h3⟩ := lkC_mem W 24 t ht.2 c
    exact ⟨u, h2, h3, Or.inr h1⟩
  · rw [if_neg c] at g ⊢
    have key : fcs D h (caL D h t q) ∈ caL D h t q := by
      unfold fcs at g ⊢
      split at g
      · omega
      · rename_i y ys e
        split
        · rename_i x hx
          have h1 : x ∈ bdL D h (caL D h t q) := by rw [hx]; exact List.mem_cons_self
          exact spN_sub D h _ _ (Nat.le_refl _) x (List.mem_filter.mp h1).1
        · rw [e]; exact List.mem_cons_self
    obtain ⟨u, h1, h2, h3, h4, _⟩ := caL_mem W ht _ key
    exact ⟨u, h1, h2, Or.inl h4⟩
theorem fnd_ok {D : St} {h n t q : Int} (W : okW D h n) (ht : 0 ≤ t ∧ t < n) (g : 0 ≤ fnd D h t q) : okX D h (fnd D h t q) := by
  obtain ⟨u, h1, h2, _⟩ := fnd_mem W ht g
  have hTU := W.1.2 u h1.1 h1.2
  rw [h2] at g ⊢
  exact mI_okX hTU.1 hTU.2 g
/-- through BRIDGES: what runs, how many -/
noncomputable def rnv (D : St) (h r : Int) : Nat → Int → Int
  | 0, x => if x < 1000 then x else -7
  | n + 1, x => if x < 1000 then x else rnv D h r n (sel D h (mem D h x) r)
noncomputable def rnh (D : St) (h r : Int) : Nat → Int → Int
  | 0, _ => 0
  | n + 1, x => if x < 1000 then 0 else rnh D h r n (sel D h (mem D h x) r) + 1
def offR (S S' : St) : Prop := ∀ a j, a < 37 ∨ 40 < a → ¬ (a = 0 ∧ 50 ≤ j ∧ j ≤ 58) → S' a j = S a j
theorem offR.refl (S : St) : offR S S := fun _ _ _ _ => rfl
theorem offQ.r {S S1 : St} (h : offQ S S1) : offR S S1 := fun a j x y => h a j x (by omega)
theorem offR.trans {S S1 S2 : St} (h : offR S S1) (g : offR S1 S2) : offR S S2 := fun a j x y => (g a j x y).trans (h a j x y)
theorem offR.up58 {S S1 : St} {v : Int} (h : offR S S1) : offR S (up S1 0 58 v) := fun a i x y => by rw [up_n S1 (by omega)]; exact h a i x y
theorem offR.ag {S S1 D : St} (h : offR S S1) (A : AgD S D) : AgD S1 D := fun a j x y => (h a j (by omega) (by omega)).trans (A a j x y)
theorem offR.hf {S S1 : St} {x : Int} (h : offR S S1) (e : S 0 10 = x) : S1 0 10 = x := (h 0 10 (by omega) (by omega)).trans e
theorem R_runOf_20 {S D : St} {h r n x : Int} {k : Int → St → Prop} (N : Nat) (hh : half01 h) (W : okW D h n) (hr : 0 ≤ r ∧ r < n) (A : AgD S D) (hS : S 0 10 = h) (h58 : S 0 58 = 8 - N) (hN : N ≤ 8) (g : gdx D h n r x) (hk : ∀ S', offR S S' → S' 0 58 = 8 - N + rnh D h r N x → k (rnv D h r N x) S') : wX8_runOf_20 S r x k := by
  unfold wX8_runOf_20
  refine wlp_of (fun a : Int × St => ∃ N : Nat, N ≤ 8 ∧ AgD a.2 D ∧ a.2 0 10 = h ∧ a.2 0 58 = 8 - (N : Int) ∧ gdx D h n r a.1 ∧ ∀ S', offR a.2 S' → S' 0 58 = 8 - (N : Int) + rnh D h r N a.1 → k (rnv D h r N a.1) S') (fun a : Int × St => (8 - a.2 0 58).toNat) ?_ ⟨N, hN, A, hS, h58, g, hk⟩
  intro P a ⟨N, hN, A, hS, h58, g, hk⟩ hP
  obtain ⟨x, S⟩ := a
  dsimp only at A hS h58 g hk hP
  show wX8_runOf_20_b S r x (fun b0 b1 => P (b0, b1)) k
  unfold wX8_runOf_20_b
  cases N with
  | zero =>
    simp only [rnv, rnh] at hk
    refine ⟨fun c => ?_, fun c => ⟨fun d => by omega, fun _ => ?_⟩⟩
    · rw [if_pos c] at hk; exact hk S (offR.refl S) (by omega)
    · rw [if_neg (by omega)] at hk; exact hk S (offR.refl S) (by omega)
  | succ N =>
    simp only [rnv, rnh] at hk
    refine ⟨fun c => ?_, fun c => ⟨fun _ S9 e9 => ?_, fun d => by omega⟩⟩
    · rw [if_pos c, if_pos c] at hk
      exact hk S (offR.refl S) (by omega)
    · rw [if_neg (by omega), if_neg (by omega)] at hk
      obtain ⟨ok, K⟩ := gdx_sOK W g (by omega)
      rw [w32_eq (by omega) (by omega)] at e9
      have oT : offR S S9 := by rw [e9]; exact (offR.refl S).up58
      have A1 := oT.ag A
      have hS1 := oT.hf hS
      have s9 : S9 0 58 = 8 - (N : Int) := by rw [e9, up_s]; omega
      refine R_memberOf A1 hS1 hh ok (R_selected A1 hS1 hh W hr K (fun S2 o => ?_))
      have s2 : S2 0 58 = 8 - (N : Int) := (o 0 58 (by omega) (by omega)).trans s9
      refine hP (sel D h (mem D h x) r, S2) ⟨N, by omega, o.ag A1, o.hf hS1, s2, gdx_sel W hr K, fun S' o2 e => hk S' (oT.trans (o.r.trans o2)) (by dsimp only at e; omega)⟩ ?_
      dsimp only
      omega
theorem R_runOf {S D : St} {h r n x se : Int} {k : Int → St → Prop} (hh : half01 h) (W : okW D h n) (hr : 0 ≤ r ∧ r < n) (A : AgD S D) (hS : S 0 10 = h) (h58 : S 0 58 = 0) (hx : okX D h x) (g1 : ¬ se = 0 → sOK D h x r) (g0 : se = 0 → gdx D h n r (rns D h x)) (hk : ∀ y, y = (if se = 0 then rns D h x else sel D h x r) → ∀ S', offR S S' → S' 0 58 = rnh D h r 8 y → k (rnv D h r 8 y) S') : wX8_runOf S x r se k := by
  unfold wX8_runOf wX8_runOf_0
  refine ⟨fun c => R_runs A hS hh hx ?_, fun c => R_selected A hS hh W hr (g1 c) (fun S1 o => ?_)⟩
  · exact R_runOf_20 8 hh W hr A hS (by omega) (Nat.le_refl _) (g0 c) (fun S' o e => hk _ (by rw [if_pos c]) S' o (by omega))
  · exact R_runOf_20 8 hh W hr (o.ag A) (o.hf hS) (by rw [o 0 58 (by omega) (by omega)]; omega) (Nat.le_refl _) (gdx_sel W hr (g1 c)) (fun S' o2 e => hk _ (by rw [if_neg c]) S' (o.r.trans o2) (by omega))
/-- RULE, and how many BRIDGES -/
def fits (D : St) (h s c m : Int) : Prop := ¬ (s = 0 ∧ D 11 (24 * h + m) = 2) ∧ ¬ (s = 1 ∧ ¬ D 11 (24 * h + m) = 2) ∧ ¬ (s = 2 ∧ D 11 (24 * h + m) = 2 ∧ ¬ isR D h c m)
def upw (D : St) (h s c m : Int) : Prop := s = 2 ∧ ¬ D 11 (24 * h + m) = 2 ∧ ¬ D 22 (24 * (24 * h + c) + m) = 0
noncomputable def plc (D : St) (h s c m : Int) : Int := @ite _ (upw D h s c m) (Classical.propDecidable _) (D 19 (24 * h + c)) m
def rcv (D : St) (h s c m r : Int) : Prop := D 11 (24 * h + r) = 0 ∧ (s = 2 → und D h r c ∧ ¬ c = m ∧ und D h c m) ∧ (¬ s = 2 → und D h r m)
noncomputable def rulF (D : St) (h s c m q r x : Int) : Int × Int :=
  if x < 0 then (-1, 0) else
  @ite _ (may D h c m x (if s = 3 then c else r)) (Classical.propDecidable _)
    (@ite _ (shp D h x = 1 ↔ s = 3) (Classical.propDecidable _)
      (if s = 3 then (x, 0) else
        @ite _ (rcv D h s c m r) (Classical.propDecidable _)
          (if s < 2 then (rnv D h r 8 (sel D h x r), rnh D h r 8 (sel D h x r)) else (rnv D h r 8 (rns D h x), rnh D h r 8 (rns D h x)))
          (-6, 0))
      (-5, 0))
    (-2, 0)
noncomputable def rul (D : St) (h s c m q r : Int) : Int × Int := @ite _ (fits D h s c m) (Classical.propDecidable _) (rulF D h s c m q r (fnd D h (plc D h s c m) q)) (-5, 0)
theorem upw_ok {D : St} {h n s c m : Int} (W : okW D h n) (hc : 0 ≤ c ∧ c < n) (hm : 0 ≤ m ∧ m < n) (u : upw D h s c m) : 0 ≤ D 19 (24 * h + c) ∧ D 19 (24 * h + c) < n ∧ ¬ D 11 (24 * h + c) = 2 := by
  have h24 := W.1.1
  have hV := W.2 c hc.1 hc.2
  have h1 := (hV.2.2.2.2.2.2 m hm.1 (by omega) u.2.2).2 u.2.1
  have hU := (W.1.2 c hc.1 hc.2).2.1
  refine ⟨h1.1, by omega, fun e => ?_⟩
  have := hV.2.2.1 e
  omega
theorem rul_gdx {D : St} {h n s c m q r : Int} (W : okW D h n) (hc : 0 ≤ c ∧ c < n) (hm : 0 ≤ m ∧ m < n) (hr : 0 ≤ r ∧ r < n) (hf : fits D h s c m) (h0 : 0 ≤ fnd D h (plc D h s c m) q) (hv : rcv D h s c m r) (hs : s = 0 ∨ s = 1 ∨ s = 2) : ∃ u, (0 ≤ u ∧ u < n) ∧ fnd D h (plc D h s c m) q = mI D h u q ∧ (D 11 (24 * h + u) = 2 ∨ u ∈ chL D h 24 r) := by
  have h24 := W.1.1
  by_cases w : upw D h s c m
  · have ep : plc D h s c m = D 19 (24 * h + c) := by unfold plc; rw [if_pos w]
    rw [ep] at h0 ⊢
    have hw := upw_ok W hc hm w
    obtain ⟨u, h1, h2, h3⟩ := fnd_mem W ⟨hw.1, hw.2.1⟩ h0
    refine ⟨u, h1, h2, ?_⟩
    rcases h3 with h3 | h3
    · exact Or.inl h3
    · have hcr := chL_und W 24 r c hr.1 hr.2 (by omega) hc.1 hc.2 hw.2.2 (hv.2.1 w.1).1
      refine Or.inr (chL_sub W 24 r c hr.2 (by omega) hcr u ?_)
      rw [chL_24 W hc]
      exact List.mem_cons_of_mem _ h3
  · have ep : plc D h s c m = m := by unfold plc; rw [if_neg w]
    rw [ep] at h0 ⊢
    obtain ⟨u, h1, h2, h3⟩ := fnd_mem W hm h0
    refine ⟨u, h1, h2, ?_⟩
    rcases h3 with h3 | h3
    · exact Or.inl h3
    · by_cases e : D 11 (24 * h + m) = 2
      · have hp := (W.2 m hm.1 hm.2).2.2.1 e
        rw [chL_24 W hm, hp, chL_nil _ (by decide)] at h3
        rw [List.mem_singleton.mp h3]
        exact Or.inl e
      · have hum : und D h r m := by
          by_cases s2 : s = 2
          · have := hv.2.1 s2
            rcases this.2.2 with z | z
            · exact absurd z this.2.1
            · exact absurd ⟨s2, e, z⟩ w
          · exact hv.2.2 s2
        exact Or.inr (chL_sub W 24 r m hr.2 (by omega) (chL_und W 24 r m hr.1 hr.2 (by omega) hm.1 hm.2 e hum) u h3)
theorem R_ruled {S D : St} {h n s c m q r : Int} {k : Int → St → Prop} (A : AgD S D) (hS : S 0 10 = h) (hh : half01 h) (W : okW D h n) (hs : 0 ≤ s ∧ s ≤ 3) (hc : 0 ≤ c ∧ c < n) (hm : 0 ≤ m ∧ m < n) (hq : okM D h q) (hr : ¬ s = 3 → 0 ≤ r ∧ r < n) (hk : ∀ S', offR S S' → S' 0 58 = (rul D h s c m q r).2 → k (rul D h s c m q r).1 S') : wX8_ruled S s c m q r k := by
  have h24 := W.1.1
  have hb01 : 0 ≤ h ∧ h ≤ 1 := by unfold half01 at hh; omega
  unfold wX8_ruled wX8_ruled_0
  intro T eT
  have oT : offR S T := by rw [eT]; exact (offR.refl S).up58
  have AT := oT.ag A
  have hST := oT.hf hS
  have T58 : T 0 58 = 0 := by rw [eT, up_s]
  have bad : ¬ fits D h s c m → k (-5) T := by
    intro g
    unfold rul at hk
    rw [if_neg g] at hk
    exact hk T oT T58
  -- behind the search
  have mid : fits D h s c m → ∀ x, x = fnd D h (plc D h s c m) q → 0 ≤ x → ∀ S1, offQ T S1 → ∀ s4, s4 = (if s = 3 then c else r) → wX8_ruled_152 S1 s c m r x c m x s4 k := by
    intro hfit x ex x0 S1 o1 s4 e4
    have A1 := o1.ag AT
    have hS1 := o1.hf hST
    have o1R := oT.trans o1.r
    have S58 : S1 0 58 = 0 := (o1 0 58 (by omega) (by omega)).trans T58
    unfold rul at hk
    rw [if_pos hfit, ← ex] at hk
    unfold rulF at hk
    rw [if_neg (by omega), ← e4] at hk
    have hpl : 0 ≤ plc D h s c m ∧ plc D h s c m < n := by
      by_cases w : upw D h s c m
      · have ep : plc D h s c m = D 19 (24 * h + c) := by unfold plc; rw [if_pos w]
        have hw := upw_ok W hc hm w
        rw [ep]; exact ⟨hw.1, hw.2.1⟩
      · have ep : plc D h s c m = m := by unfold plc; rw [if_neg w]
        rw [ep]; exact hm
    have okx : okX D h x := by rw [ex]; rw [ex] at x0; exact fnd_ok W hpl x0
    have h4 : 0 ≤ s4 ∧ s4 < 24 := by
      by_cases e3 : s = 3
      · rw [if_pos e3] at e4; omega
      · rw [if_neg e3] at e4; have := hr e3; omega
    unfold wX8_ruled_152
    refine R_mayHave A1 hS1 hh (by omega) (by omega) h4 okx (fun g => ⟨fun _ => ?_, fun z => absurd z (by decide)⟩) (fun g => ⟨fun z => absurd rfl z, fun _ => ?_⟩)
    · rw [if_pos g] at hk
      have fin : ∀ s0 : Int, ((s0 = 1 ∧ shp D h x = 1) ∨ (s0 = 0 ∧ ¬ shp D h x = 1)) → wX8_ruled_176 S1 s c m r x s0 k := by
        intro s0 hs0
        unfold wX8_ruled_176
        have five : ¬ (shp D h x = 1 ↔ s = 3) → k (-5) S1 := by
          intro g2
          rw [if_neg g2] at hk
          exact hk S1 o1R S58
        have run : (shp D h x = 1 ↔ s = 3) → (¬ s = 3 → rcv D h s c m r) → wX8_ruled_265 S1 s r x k := by
          intro g2 g3
          rw [if_pos g2] at hk
          unfold wX8_ruled_265 wX8_ruled_280
          by_cases e3 : s = 3
          · rw [if_pos e3] at hk
            refine ⟨fun _ => ?_, fun z => by omega⟩
            unfold wX8_runOf wX8_runOf_0
            have e2 := g2.mpr e3
            have x1000 : x < 1000 := by
              by_cases z : x < 1000
              · exact z
              · unfold shp at e2; rw [if_neg z] at e2; omega
            refine ⟨fun _ => R_runs A1 hS1 hh okx ?_, fun z => absurd rfl z⟩
            have : rns D h x = x := by unfold rns; rw [if_neg (by omega)]
            rw [this]
            unfold wX8_runOf_20
            refine wlp_exit (fun P => ?_)
            show wX8_runOf_20_b S1 r x (fun b0 b1 => P (b0, b1)) k
            unfold wX8_runOf_20_b
            exact ⟨fun _ => hk S1 o1R S58, fun z => by omega⟩
          · rw [if_neg e3, if_pos (g3 e3)] at hk
            have hr' := hr e3
            have hx' : 0 ≤ fnd D h (plc D h s c m) q := by rw [← ex]; exact x0
            obtain ⟨u, u1, u2, u3⟩ := rul_gdx (q := q) W hc hm hr' hfit hx' (g3 e3) (by omega)
            rw [← ex] at u2
            have nst : ¬ shp D h x = 1 := fun z => e3 (g2.mp z)
            refine ⟨fun z => R_runOf hh W hr' A1 hS1 S58 okx (fun z2 => absurd rfl z2) (fun _ => ?_) (fun y ey S' o e => ?_), fun z => R_runOf hh W hr' A1 hS1 S58 okx (fun _ => sOK_of W u1 u2 x0 nst u3) (fun z2 => absurd z2 (by decide)) (fun y ey S' o e => ?_)⟩
            · unfold rns
              split
              · exact Or.inl (by decide)
              · exact Or.inr ⟨u, q, u1, u2, u3⟩
            · rw [if_pos rfl] at ey
              subst ey
              rw [if_neg (by omega)] at hk
              exact hk S' (o1R.trans o) e
            · rw [if_neg (by decide)] at ey
              subst ey
              rw [if_pos z] at hk
              exact hk S' (o1R.trans o) e
        have six : (shp D h x = 1 ↔ s = 3) → ¬ s = 3 → ¬ rcv D h s c m r → k (-6) S1 := by
          intro g2 e3 g3
          rw [if_pos g2, if_neg e3, if_neg g3] at hk
          exact hk S1 o1R S58
        have recv : (shp D h x = 1 ↔ s = 3) → ¬ s = 3 → ∀ y : Int, ((y = 1 ∧ ((s = 2 → und D h r c ∧ ¬ c = m ∧ und D h c m) ∧ (¬ s = 2 → und D h r m))) ∨ (y = 0 ∧ ¬ ((s = 2 → und D h r c ∧ ¬ c = m ∧ und D h c m) ∧ (¬ s = 2 → und D h r m)))) → wX8_ruled_241 S1 s r x y k := by
          intro g2 e3 y hy
          have hr' := hr e3
          unfold wX8_ruled_241
          refine R_t hS1 hh (by omega) ?_
          rw [A1 11 _ (by decide) (by decide)]
          refine ⟨by omega, fun z => six g2 e3 (fun g => z g.1), fun z => ⟨fun z2 => ?_, fun z2 => ?_⟩⟩
          · rcases hy with hy | hy
            · exact run g2 (fun _ => ⟨z, hy.2⟩)
            · exact absurd hy.1 z2
          · rcases hy with hy | hy
            · omega
            · exact six g2 e3 (fun g => hy.2 g.2)
        have step : ∀ s1 : Int, ((s1 = 1 ∧ s = 3) ∨ (s1 = 0 ∧ ¬ s = 3)) → wX8_ruled_186 S1 s c m r x s0 s1 k := by
          intro s1 hs1
          have iff1 : s0 = s1 ↔ (shp D h x = 1 ↔ s = 3) := by
            rcases hs0 with a | a
            · rcases hs1 with b | b
              · exact ⟨fun _ => ⟨fun _ => b.2, fun _ => a.2⟩, fun _ => by omega⟩
              · exact ⟨fun z => by omega, fun z => absurd (z.mp a.2) b.2⟩
            · rcases hs1 with b | b
              · exact ⟨fun z => by omega, fun z => absurd (z.mpr b.2) a.2⟩
              · exact ⟨fun _ => ⟨fun z => absurd z a.2, fun z => absurd z b.2⟩, fun _ => by omega⟩
          unfold wX8_ruled_186
          refine ⟨fun z => ⟨fun e3 => run (iff1.mp z) (fun z2 => absurd e3 z2), fun e3 => ?_⟩, fun z => five (fun z2 => z (iff1.mpr z2))⟩
          have hr' := hr e3
          have g2 := iff1.mp z
          refine ⟨fun e2 => R_und A1 hS1 hh (by omega) (by omega) (fun u => recv g2 e3 1 (Or.inl ⟨rfl, fun z => absurd z e2, fun _ => u⟩)) (fun u => recv g2 e3 0 (Or.inr ⟨rfl, fun w => u (w.2 e2)⟩)), fun e2 => ?_⟩
          have no : ¬ (und D h r c ∧ ¬ c = m ∧ und D h c m) → wX8_ruled_230 S1 s r x k := fun w => recv g2 e3 0 (Or.inr ⟨rfl, fun v => w (v.1 e2)⟩)
          refine R_und A1 hS1 hh (by omega) (by omega) (fun u => ⟨fun z => absurd z (by decide), fun _ => ⟨fun z => no (fun w => w.2.1 z), fun z => R_und A1 hS1 hh (by omega) (by omega) (fun u2 => ⟨fun z => absurd z (by decide), fun _ => recv g2 e3 1 (Or.inl ⟨rfl, fun _ => ⟨u, z, u2⟩, fun w => absurd e2 w⟩)⟩) (fun u2 => ⟨fun _ => no (fun w => u2 w.2.2), fun z => absurd rfl z⟩)⟩⟩) (fun u => ⟨fun _ => no (fun w => u w.1), fun z => absurd rfl z⟩)
        exact ⟨fun z => step 0 (Or.inr ⟨rfl, z⟩), fun z => step 1 (Or.inl ⟨rfl, z⟩)⟩
      exact R_shapeOf A1 hS1 hh okx ⟨fun z => fin 0 (Or.inr ⟨rfl, z⟩), fun z => fin 1 (Or.inl ⟨rfl, z⟩)⟩
    · rw [if_neg g] at hk
      exact hk S1 o1R S58
  have look : fits D h s c m → ∀ p, p = plc D h s c m → wX8_ruled_122 T s c m q r p k := by
    intro hfit p ep
    have hpl : 0 ≤ p ∧ p < n := by
      rw [ep]
      by_cases w : upw D h s c m
      · have ep : plc D h s c m = D 19 (24 * h + c) := by unfold plc; rw [if_pos w]
        have hw := upw_ok W hc hm w
        rw [ep]; exact ⟨hw.1, hw.2.1⟩
      · have ep : plc D h s c m = m := by unfold plc; rw [if_neg w]
        rw [ep]; exact hm
    unfold wX8_ruled_122
    refine R_lookedUp AT hST hh W.1 hpl hq (fun S1 o1 => ?_)
    rw [ep]
    refine ⟨fun x0 => ⟨fun z => mid hfit _ rfl x0 S1 o1 r (by rw [if_neg z]), fun z => mid hfit _ rfl x0 S1 o1 c (by rw [if_pos z])⟩, fun x0 => ?_⟩
    unfold rul at hk
    rw [if_pos hfit] at hk
    unfold rulF at hk
    rw [if_pos x0] at hk
    exact hk S1 (oT.trans o1.r) ((o1 0 58 (by omega) (by omega)).trans T58)
  have where_ : fits D h s c m → ∀ y : Int, ((y = 1 ∧ D 11 (24 * h + m) = 2) ∨ (y = 0 ∧ ¬ D 11 (24 * h + m) = 2)) → wX8_ruled_67 T s c m q r y k := by
    intro hfit y hy
    unfold wX8_ruled_67 wX8_ruled_99 wX8_ruled_100
    have at_ : ¬ upw D h s c m → wX8_ruled_122 T s c m q r m k := fun w => look hfit m (by unfold plc; rw [if_neg w])
    have stay : ¬ upw D h s c m → ((0 : Int) = 0 → wX8_ruled_122 T s c m q r m k) ∧ (¬ (0 : Int) = 0 → wX8_t T c (fun x_3 => (0 ≤ x_3 ∧ x_3 < 48) ∧ wX8_ruled_122 T s c m q r (T 19 x_3) k)) := fun w => ⟨fun _ => at_ w, fun z => absurd rfl z⟩
    refine ⟨fun z => stay (fun w => z w.1), fun z => ⟨fun z2 => stay (fun w => ?_), fun z2 => ?_⟩⟩
    · rcases hy with hy | hy
      · exact w.2.1 hy.2
      · exact z2 hy.1
    · have nf : ¬ D 11 (24 * h + m) = 2 := by
        rcases hy with hy | hy
        · omega
        · exact hy.2
      refine R_t hST hh (by omega) ?_
      rw [w32_eq (x := 24 * (24 * h + c)) (by omega) (by omega), w32_eq (by omega) (by omega), AT 22 _ (by decide) (by decide)]
      refine ⟨by omega, fun e => stay (fun w => w.2.2 e), fun e => ⟨fun z3 => absurd z3 (by decide), fun _ => R_t hST hh (by omega) ⟨by omega, ?_⟩⟩⟩
      rw [AT 19 _ (by decide) (by decide)]
      exact look hfit _ (by unfold plc; rw [if_pos ⟨z, nf, e⟩])
  have face : ∀ y : Int, ((y = 1 ∧ D 11 (24 * h + m) = 2) ∨ (y = 0 ∧ ¬ D 11 (24 * h + m) = 2)) → wX8_ruled_24 T s c m q r y k := by
    intro y hy
    have t45 : ¬ (s = 0 ∧ D 11 (24 * h + m) = 2) → ¬ (s = 1 ∧ ¬ D 11 (24 * h + m) = 2) → wX8_ruled_45 T s c m q r y k := by
      intro g0 g1
      unfold wX8_ruled_45
      refine ⟨fun z => where_ ⟨g0, g1, fun w => z w.1⟩ y hy, fun z => ⟨fun z2 => where_ ⟨g0, g1, fun w => ?_⟩ y hy, fun z2 => R_isRef AT hST hh (by omega) (W.2 c hc.1 hc.2).2.1 (fun g => ⟨fun _ => where_ ⟨g0, g1, fun w => w.2.2 g⟩ y hy, fun z => absurd z (by decide)⟩) (fun g => ⟨fun z => absurd rfl z, fun _ => bad (fun w => w.2.2 ⟨z, ?_, g⟩)⟩)⟩⟩
      · rcases hy with hy | hy
        · omega
        · exact hy.2 w.2.1
      · rcases hy with hy | hy
        · exact hy.2
        · exact absurd hy.1 z2
    have t35 : ¬ (s = 0 ∧ D 11 (24 * h + m) = 2) → wX8_ruled_35 T s c m q r y k := by
      intro g0
      unfold wX8_ruled_35
      refine ⟨fun z => t45 g0 (fun w => z w.1), fun z => ⟨fun z2 => bad (fun w => w.2.1 ⟨z, ?_⟩), fun z2 => t45 g0 (fun w => ?_)⟩⟩
      · rcases hy with hy | hy
        · omega
        · exact hy.2
      · rcases hy with hy | hy
        · exact w.2 hy.2
        · exact z2 hy.1
    unfold wX8_ruled_24
    refine ⟨fun z => t35 (fun w => z w.1), fun z => ⟨fun z2 => bad (fun w => w.1 ⟨z, ?_⟩), fun z2 => t35 (fun w => ?_)⟩⟩
    · rcases hy with hy | hy
      · exact hy.2
      · exact absurd hy.1 z2
    · rcases hy with hy | hy
      · omega
      · exact hy.2 w.2
  refine R_t hST hh (by omega) ?_
  rw [AT 11 _ (by decide) (by decide)]
  exact ⟨by omega, fun z => face 0 (Or.inr ⟨rfl, z⟩), fun z => face 1 (Or.inl ⟨rfl, z⟩)⟩
