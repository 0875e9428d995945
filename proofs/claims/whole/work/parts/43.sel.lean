/-! pure: SELECT: the reference -/
/-- the family's order, a type's METHODS -/
def okV (D : St) (h t : Int) : Prop :=
  (0 ≤ D 11 (24 * h + t) ∧ D 11 (24 * h + t) ≤ 2) ∧ (0 ≤ D 16 (24 * h + t) ∧ D 16 (24 * h + t) ≤ 4) ∧
  (D 11 (24 * h + t) = 2 → D 19 (24 * h + t) = -13) ∧
  (0 ≤ D 19 (24 * h + t) → ¬ D 11 (24 * h + D 19 (24 * h + t)) = 2) ∧
  (∀ m, D 24 (24 * h + t) ≤ m → m < D 24 (24 * h + t) + D 25 (24 * h + t) → D 28 (120 * h + m) = t ∧ mI D h t m = m ∧ (D 11 (24 * h + t) = 2 → D 30 (120 * h + m) = 0 ∨ D 30 (120 * h + m) = 3)) ∧
  (∀ b, D 26 (24 * h + t) ≤ b → b < D 26 (24 * h + t) + D 27 (24 * h + t) → (D 24 (24 * h + t) ≤ D 35 (7200 * h + b) ∧ D 35 (7200 * h + b) < D 24 (24 * h + t) + D 25 (24 * h + t)) ∧ mI D h t (D 36 (7200 * h + b)) = 1000 + b ∧ ¬ D 31 (120 * h + D 35 (7200 * h + b)) = 1 ∧ ¬ D 31 (120 * h + D 35 (7200 * h + b)) = 2 ∧ ¬ D 30 (120 * h + D 35 (7200 * h + b)) = 0) ∧
  (∀ x, 0 ≤ x → x < 24 → ¬ D 22 (24 * (24 * h + t) + x) = 0 → x < t ∧ (¬ D 11 (24 * h + x) = 2 → 0 ≤ D 19 (24 * h + t) ∧ und D h (D 19 (24 * h + t)) x))
def okW (D : St) (h n : Int) : Prop := okC D h n ∧ ∀ t, 0 ≤ t → t < n → okV D h t
def chL (D : St) (h : Int) : Nat → Int → List Int
  | 0, _ => []
  | n + 1, c => if c < 0 then [] else c :: chL D h n (D 19 (24 * h + c))
theorem chL_nil {D : St} {h c : Int} (N : Nat) (hc : c < 0) : chL D h N c = [] := by
  cases N with
  | zero => rw [chL]
  | succ N => rw [chL, if_pos hc]
theorem chL_cons {D : St} {h c : Int} {N : Nat} (hc : 0 ≤ c) : chL D h (N + 1) c = c :: chL D h N (D 19 (24 * h + c)) := by rw [chL, if_neg (by omega)]
theorem chL_le {D : St} {h n : Int} (W : okW D h n) (N : Nat) : ∀ c, c < n → ∀ x ∈ chL D h N c, 0 ≤ x ∧ x ≤ c := by
  induction N with
  | zero => intro c _ x hx; rw [chL] at hx; exact absurd hx (List.not_mem_nil)
  | succ N ih =>
    intro c hc x hx
    by_cases e : c < 0
    · rw [chL_nil _ e] at hx; exact absurd hx (List.not_mem_nil)
    · rw [chL_cons (by omega)] at hx
      rcases List.mem_cons.mp hx with g | g
      · omega
      · have hU := (W.1.2 c (by omega) hc).2.1
        have := ih (D 19 (24 * h + c)) (by omega) x g
        omega
theorem chL_fuel {D : St} {h n : Int} (W : okW D h n) (N : Nat) : ∀ (M : Nat) (c : Int), c < n → c < N → c < M → chL D h N c = chL D h M c := by
  induction N with
  | zero => intro M c _ h1 _; rw [chL_nil _ (by omega), chL_nil _ (by omega)]
  | succ N ih =>
    intro M c hc h1 h2
    by_cases e : c < 0
    · rw [chL_nil _ e, chL_nil _ e]
    · cases M with
      | zero => omega
      | succ M =>
        have hU := (W.1.2 c (by omega) hc).2.1
        rw [chL_cons (by omega), chL_cons (by omega), ih M _ (by omega) (by omega) (by omega)]
theorem chL_24 {D : St} {h n c : Int} (W : okW D h n) (hc : 0 ≤ c ∧ c < n) : chL D h 24 c = c :: chL D h 24 (D 19 (24 * h + c)) := by
  have h24 := W.1.1
  have hU := (W.1.2 c hc.1 hc.2).2.1
  rw [chL_cons hc.1, chL_fuel W 23 24 _ (by omega) (by omega) (by omega)]
theorem chL_sub {D : St} {h n : Int} (W : okW D h n) (N : Nat) : ∀ (r c : Int), r < n → r < N → c ∈ chL D h 24 r → ∀ x ∈ chL D h 24 c, x ∈ chL D h 24 r := by
  induction N with
  | zero => intro r c _ h1 h2; rw [chL_nil _ (by omega)] at h2; exact absurd h2 (List.not_mem_nil)
  | succ N ih =>
    intro r c h0 h1 h2 x hx
    by_cases e : r < 0
    · rw [chL_nil _ e] at h2; exact absurd h2 (List.not_mem_nil)
    · rw [chL_24 W ⟨by omega, h0⟩] at h2
      rcases List.mem_cons.mp h2 with g | g
      · rw [g] at hx; exact hx
      · have hU := (W.1.2 r (by omega) h0).2.1
        rw [chL_24 W ⟨by omega, h0⟩]
        exact List.mem_cons_of_mem _ (ih _ c (by omega) (by omega) g x hx)
theorem chL_und {D : St} {h n : Int} (W : okW D h n) (N : Nat) : ∀ (r c : Int), 0 ≤ r → r < n → r < N → 0 ≤ c → c < n → ¬ D 11 (24 * h + c) = 2 → und D h r c → c ∈ chL D h 24 r := by
  have h24 := W.1.1
  induction N with
  | zero => intro r c a _ b; omega
  | succ N ih =>
    intro r c r0 r1 r2 c0 c1 c2 u
    rw [chL_24 W ⟨r0, r1⟩]
    rcases u with e | e
    · rw [e]; exact List.mem_cons_self
    · have hV := (W.2 r r0 r1).2.2.2.2.2.2 c c0 (by omega) e
      have hV2 := hV.2 c2
      have hU := (W.1.2 r r0 r1).2.1
      exact List.mem_cons_of_mem _ (ih _ c hV2.1 (by omega) (by omega) c0 c1 c2 hV2.2)
theorem mI_rng {D : St} {h t q n : Int} (W : okW D h n) (ht : 0 ≤ t ∧ t < n) (g : 0 ≤ mI D h t q) : own D h (mI D h t q) = t ∧ mI D h t (sby D h (mI D h t q)) = mI D h t q ∧ (D 11 (24 * h + t) = 2 → acc D h (mI D h t q) = 0 ∨ acc D h (mI D h t q) = 3) ∧ (1000 ≤ mI D h t q → ¬ shp D h (mI D h t q) = 2 ∧ ¬ shp D h (mI D h t q) = 1 ∧ ¬ acc D h (mI D h t q) = 0 ∧ D 24 (24 * h + t) ≤ mem D h (mI D h t q) ∧ mem D h (mI D h t q) < D 24 (24 * h + t) + D 25 (24 * h + t) ∧ ¬ D 31 (120 * h + mem D h (mI D h t q)) = 1 ∧ ¬ D 31 (120 * h + mem D h (mI D h t q)) = 2 ∧ ¬ D 30 (120 * h + mem D h (mI D h t q)) = 0) := by
  have hT := (W.1.2 t ht.1 ht.2).1
  have hV := W.2 t ht.1 ht.2
  have hF := hT.2.1
  have hB := hT.2.2.1
  obtain ⟨v1, v2, v3, v4, v5, v6, v7⟩ := hV
  rcases mI_spec D h t q with ⟨a, b, c, d⟩ | ⟨a, ⟨b, c, d, e⟩ | ⟨b, c⟩⟩
  · have e1 : mI D h t q < 1000 := by omega
    have m1 : mem D h (mI D h t q) = mI D h t q := by unfold mem; rw [if_pos e1]
    have s1 : sby D h (mI D h t q) = mI D h t q := by unfold sby; rw [if_pos e1]
    have := v5 _ a b
    refine ⟨?_, ?_, fun f => ?_, fun f => by omega⟩
    · unfold own; rw [m1]; exact this.1
    · rw [s1]; exact this.2.1
    · unfold acc; rw [m1]; exact this.2.2 f
  · have e1 : ¬ mI D h t q < 1000 := by omega
    have m1 : mem D h (mI D h t q) = D 35 (7200 * h + (mI D h t q - 1000)) := by unfold mem; rw [if_neg e1]
    have s1 : sby D h (mI D h t q) = D 36 (7200 * h + (mI D h t q - 1000)) := by unfold sby; rw [if_neg e1]
    have p1 : shp D h (mI D h t q) = 0 := by unfold shp; rw [if_neg e1]
    obtain ⟨w1, w2, w3, w4, w5⟩ := v6 _ b c
    have w6 := v5 _ w1.1 w1.2
    refine ⟨?_, ?_, fun f => ?_, fun f => ⟨by rw [p1]; decide, by rw [p1]; decide, ?_, ?_, ?_, ?_, ?_, ?_⟩⟩
    · unfold own; rw [m1]; exact w6.1
    · rw [s1, w2]; omega
    · unfold acc; rw [m1]; exact w6.2.2 f
    · unfold acc; rw [m1]; exact w5
    · rw [m1]; exact w1.1
    · rw [m1]; exact w1.2
    · rw [m1]; exact w3
    · rw [m1]; exact w4
    · rw [m1]; exact w5
  · omega
noncomputable def Lm (D : St) (h r q : Int) : List Int := (chL D h 24 r).map (fun c => mI D h c q)
theorem Lm_once {D : St} {h n q f : Int} (W : okW D h n) (hf : 0 ≤ f) (N : Nat) : ∀ c, c < n → once f ((chL D h N c).map (fun c => mI D h c q)) := by
  induction N with
  | zero => intro c _; rw [chL]; exact trivial
  | succ N ih =>
    intro c hc
    by_cases e : c < 0
    · rw [chL_nil _ e]; exact trivial
    · rw [chL_cons (by omega), List.map_cons]
      have hU := (W.1.2 c (by omega) hc).2.1
      refine ⟨fun e2 hm => ?_, ih _ (by omega)⟩
      obtain ⟨c2, h1, h2⟩ := List.mem_map.mp hm
      have := chL_le W N _ (by omega) c2 h1
      have a1 := (mI_rng (q := q) W ⟨by omega, hc⟩ (by omega)).1
      have a2 := (mI_rng (t := c2) (q := q) W (by omega) (by omega)).1
      rw [e2] at a1
      rw [h2] at a2
      omega
def rns (D : St) (h x : Int) : Int := if shp D h x = 2 then -4 else x
noncomputable def sol (D : St) (h : Int) (L : List Int) : Int := match bdL D h L with
  | [] => -4
  | [x] => x
  | _ => -3
noncomputable def sel (D : St) (h f r : Int) : Int := if acc D h f = 0 then f else match (rps D h f (Lm D h r (sby D h f))).head? with
  | some x => rns D h x
  | none => sol D h (caL D h r (sby D h f))
/-- f may be SELECTED for r -/
def sOK (D : St) (h f r : Int) : Prop := 0 ≤ f ∧ okX D h f ∧ ((acc D h f = 0 ∧ f < 1000) ∨ (plain D h f ∧ (D 11 (24 * h + own D h f) = 2 → 1 < acc D h f) ∧ (¬ D 11 (24 * h + own D h f) = 2 → f ∈ Lm D h r (sby D h f))))
theorem R_runs {S D : St} {x h : Int} {k : Int → Prop} (A : AgD S D) (hS : S 0 10 = h) (hh : half01 h) (hx : okX D h x) (hk : k (rns D h x)) : wX8_runs S x k := by
  unfold wX8_runs wX8_runs_0
  unfold rns at hk
  refine R_shapeOf A hS hh hx ⟨fun c => ?_, fun c => ?_⟩
  · rwa [if_neg c] at hk
  · rwa [if_pos c] at hk
theorem R_sel_235 {S D : St} {h f r n : Int} {k : Int → St → Prop} (A : AgD S D) (hS : S 0 10 = h) (hh : half01 h) (C : okC D h n) (hr : 0 ≤ r ∧ r < n) (hf : okX D h f) (hk : ∀ S', offQ S S' → k (sol D h (caL D h r (sby D h f))) S') : wX8_selected_235 S f r k := by
  unfold wX8_selected_235
  refine R_soughtBy A hS hh hf (R_faces A hS hh C hr (okX_sby hf) (fun S1 o _ b1 b2 => ?_))
  have hk1 := hk S1 o
  unfold sol at hk1
  rw [b1]
  refine ⟨fun c => ⟨fun d => ?_, fun d => ?_⟩, fun c => ?_⟩
  · split at hk1
    · rename_i e; rw [e] at d; exact absurd rfl d
    · rename_i x e; rw [e] at c; exact absurd rfl c
    · exact hk1
  · have e : bdL D h (caL D h r (sby D h f)) = [] := List.length_eq_zero_iff.mp (by omega)
    rw [e] at hk1; exact hk1
  · obtain ⟨x, e⟩ : ∃ x, bdL D h (caL D h r (sby D h f)) = [x] := List.length_eq_one_iff.mp (by omega)
    rw [e] at hk1 b2
    have : S1 0 54 = x := by rw [b2]; rfl
    rw [this]; exact hk1
theorem R_sel_45 {D : St} {h f r n face : Int} {k : Int → St → Prop} (hh : half01 h) (W : okW D h n) (hf : okX D h f) (f0 : 0 ≤ f) (pf : plain D h f) (N : Nat) : ∀ (c : Int) (S : St) (M : List Int), AgD S D → S 0 10 = h → (c = -13 ∨ (0 ≤ c ∧ c < n ∧ c < N)) → isL S 39 M → S 0 56 = M.length → M.length + N ≤ 24 →
    (∀ S' met, offQ S S' → isL S' 39 (M ++ ptl D h f ((chL D h N c).map (fun c => mI D h c (sby D h f)))) → S' 0 56 = (M ++ ptl D h f ((chL D h N c).map (fun c => mI D h c (sby D h f)))).length → ((met = 1 ∧ f ∈ (chL D h N c).map (fun c => mI D h c (sby D h f))) ∨ (met = 0 ∧ ¬ f ∈ (chL D h N c).map (fun c => mI D h c (sby D h f)))) → wX8_selected_134 S' f r face met k) → wX8_selected_45 S f r face 0 c k := by
  have hn24 := W.1.1
  have hb01 : 0 ≤ h ∧ h ≤ 1 := by unfold half01 at hh; omega
  have ex0 : ∀ (c : Int) (S : St) (fl : Int), (c = -13 ∨ ¬ fl = 0) → wX8_selected_134 S f r face fl k → wX8_selected_45 S f r face fl c k := by
    intro c S fl hc hk
    unfold wX8_selected_45
    refine wlp_exit (fun P => ?_)
    show wX8_selected_45_b S f r face fl c (fun b0 b1 b2 => P (b0, b1, b2)) k
    unfold wX8_selected_45_b
    refine ⟨fun _ => hk, fun e => ⟨fun _ => hk, fun e2 => ?_⟩⟩
    rcases hc with g | g
    · exact absurd g e
    · exact absurd e2 g
  induction N with
  | zero =>
    intro c S M A hS hc hM hn hl hk
    have e : c = -13 := by omega
    refine ex0 c S 0 (Or.inl e) (hk S 0 (offQ.refl S) ?_ ?_ (Or.inr ⟨rfl, ?_⟩))
    · simpa [chL, ptl] using hM
    · simpa [chL, ptl] using hn
    · simp [chL]
  | succ N ih =>
    intro c S M A hS hc hM hn hl hk
    by_cases e : c = -13
    · refine ex0 c S 0 (Or.inl e) (hk S 0 (offQ.refl S) ?_ ?_ (Or.inr ⟨rfl, ?_⟩))
      · rw [chL_nil _ (by omega)]; simpa [ptl] using hM
      · rw [chL_nil _ (by omega)]; simpa [ptl] using hn
      · rw [chL_nil _ (by omega)]; simp
    · have hc0 : 0 ≤ c ∧ c < n ∧ c < ((N + 1 : Nat) : Int) := by omega
      have hTU := W.1.2 c hc0.1 hc0.2.1
      have hP := hTU.2.1
      rw [chL_cons hc0.1, List.map_cons] at hk
      obtain ⟨x, hx⟩ : ∃ x, x = mI D h c (sby D h f) := ⟨_, rfl⟩
      rw [← hx] at hk
      -- one round: what it leads to
      have rnd : ∀ (fl : Int) (S2 : St), wX8_selected_45 S2 f r face fl (D 19 (24 * h + c)) k → (∀ P : Int × Int × St → Prop, P (fl, D 19 (24 * h + c), S2) → wX8_selected_45_b S f r face 0 c (fun b0 b1 b2 => P (b0, b1, b2)) k) → wX8_selected_45 S f r face 0 c k := by
        intro fl S2 g1 g2
        unfold wX8_selected_45 at g1 ⊢
        exact wlp_step (a' := (fl, D 19 (24 * h + c), S2)) (fun P hP => g2 P hP) g1
      have skip : ¬ (0 ≤ x ∧ plain D h x) → wX8_selected_45 S f r face 0 c k := by
        intro g
        have xf : ¬ x = f := fun z => g (by rw [z]; exact ⟨f0, pf⟩)
        refine rnd 0 S (ih _ S M A hS (by omega) hM hn (by omega) (fun S' met o1 o2 o3 o4 => hk S' met o1 ?_ ?_ ?_)) (fun P hP => ?_)
        · rw [ptl_neg g]; exact o2
        · rw [ptl_neg g]; exact o3
        · rcases o4 with ⟨a, b⟩ | ⟨a, b⟩
          · exact Or.inl ⟨a, List.mem_cons_of_mem _ b⟩
          · exact Or.inr ⟨a, fun z => (List.mem_cons.mp z).elim (fun z => xf z.symm) b⟩
        · unfold wX8_selected_45_b
          have st : wX8_selected_118 S f r face 0 c (fun b0 b1 b2 => P (b0, b1, b2)) k := by
            unfold wX8_selected_118
            refine R_t hS hh (by omega) ⟨by omega, fun y ey => ?_⟩
            rw [ey, A 19 _ (by decide) (by decide)]
            exact hP
          refine ⟨fun z => absurd z e, fun _ => ⟨fun z => absurd rfl z, fun _ => R_soughtBy A hS hh hf (R_mI A hS hh hTU.1 (okX_sby hf) ?_)⟩⟩
          rw [← hx]
          refine ⟨fun _ => st, fun z => R_isPlain A hS hh ?_ (fun z2 => absurd ⟨z, z2⟩ g) (fun z2 => ⟨fun _ => st, fun z3 => absurd rfl z3⟩)⟩
          rw [hx]; rw [hx] at z; exact mI_okX hTU.1 hTU.2 z
      by_cases g : 0 ≤ x ∧ plain D h x
      · obtain ⟨T, hT⟩ : ∃ T, T = up (up S 39 M.length x) 0 56 (M.length + 1) := ⟨_, rfl⟩
        have oT : offQ S T := by rw [hT]; exact ((offQ.refl S).upA (by decide) (by decide)).up0 (by decide) (by decide)
        have hx' : okX D h x := by have z := g.1; rw [hx] at z ⊢; exact mI_okX hTU.1 hTU.2 z
        have T39 : isL T 39 (M ++ [x]) := by
          rw [hT]
          exact isL.off (S := up S 39 M.length x) hM.snoc (fun j => up_n _ (by omega))
        have T56 : T 0 56 = (M ++ [x]).length := by rw [hT, up_s]; simp
        have stp : ∀ fl : Int, ((x = f ∧ fl = 1) ∨ (¬ x = f ∧ fl = 0)) → ∀ P : Int × Int × St → Prop, P (fl, D 19 (24 * h + c), T) → wX8_selected_45_b S f r face 0 c (fun b0 b1 b2 => P (b0, b1, b2)) k := by
          intro fl hfl P hP
          unfold wX8_selected_45_b wX8_selected_116
          refine ⟨fun z => absurd z e, fun _ => ⟨fun z => absurd rfl z, fun _ => R_soughtBy A hS hh hf (R_mI A hS hh hTU.1 (okX_sby hf) ?_)⟩⟩
          rw [← hx]
          refine ⟨fun z => by omega, fun _ => R_isPlain A hS hh hx' (fun _ => ⟨fun z => absurd z (by decide), fun _ => ⟨by omega, fun S1 e1 S2 e2 => ?_⟩⟩) (fun z => absurd g.2 z)⟩
          have eT : S2 = T := by
            rw [e2, e1, hT, up_n _ (by omega), hn, w32_eq (by omega) (by omega)]
          have st : ∀ fl, P (fl, D 19 (24 * h + c), T) → wX8_selected_118 S2 f r face fl c (fun b0 b1 b2 => P (b0, b1, b2)) k := by
            intro fl hP
            unfold wX8_selected_118
            refine R_t ((congrFun (congrFun eT 0) 10).trans (oT.hf hS)) hh (by omega) ⟨by omega, fun y ey => ?_⟩
            rw [ey, eT, oT.ag A 19 _ (by decide) (by decide)]
            exact hP
          refine ⟨fun z => st 0 ?_, fun z => st 1 ?_⟩
          · rcases hfl with w | w
            · exact absurd w.1 z
            · rw [w.2] at hP; exact hP
          · rcases hfl with w | w
            · rw [w.2] at hP; exact hP
            · exact absurd z w.1
        by_cases xf : x = f
        · refine rnd 1 T (ex0 _ T 1 (Or.inr (by decide)) (hk T 1 oT ?_ ?_ (Or.inl ⟨rfl, by rw [xf]; exact List.mem_cons_self⟩))) (stp 1 (Or.inl ⟨xf, rfl⟩))
          · rw [xf, ptl_end ⟨f0, pf⟩, ← xf]; exact T39
          · rw [xf, ptl_end ⟨f0, pf⟩, ← xf]; exact T56
        · refine rnd 0 T (ih _ T (M ++ [x]) (oT.ag A) (oT.hf hS) (by omega) T39 T56 (by simp; omega) (fun S' met o1 o2 o3 o4 => hk S' met (oT.trans o1) ?_ ?_ ?_)) (stp 0 (Or.inr ⟨xf, rfl⟩))
          · rw [ptl_pos g xf]; simpa using o2
          · rw [ptl_pos g xf]; simpa using o3
          · rcases o4 with ⟨a, b⟩ | ⟨a, b⟩
            · exact Or.inl ⟨a, List.mem_cons_of_mem _ b⟩
            · exact Or.inr ⟨a, fun z => (List.mem_cons.mp z).elim (fun z => xf z.symm) b⟩
      · exact skip g
theorem Lm_ok {D : St} {h r n q : Int} (W : okW D h n) (hr : 0 ≤ r ∧ r < n) : ∀ x ∈ Lm D h r q, 0 ≤ x → ∃ c, c ∈ chL D h 24 r ∧ (0 ≤ c ∧ c < n) ∧ x = mI D h c q ∧ okX D h x := by
  intro x hx x0
  obtain ⟨c, h1, h2⟩ := List.mem_map.mp hx
  have := chL_le W 24 r hr.2 c h1
  have hTU := W.1.2 c (by omega) (by omega)
  refine ⟨c, h1, by omega, h2.symm, ?_⟩
  rw [← h2] at x0 ⊢
  exact mI_okX hTU.1 hTU.2 x0
theorem R_selected {S D : St} {h f r n : Int} {k : Int → St → Prop} (A : AgD S D) (hS : S 0 10 = h) (hh : half01 h) (W : okW D h n) (hr : 0 ≤ r ∧ r < n) (K : sOK D h f r) (hk : ∀ S', offQ S S' → k (sel D h f r) S') : wX8_selected S f r k := by
  have hn24 := W.1.1
  have hb01 : 0 ≤ h ∧ h ≤ 1 := by unfold half01 at hh; omega
  obtain ⟨f0, hf, K⟩ := K
  have hown := und_own hf
  unfold wX8_selected wX8_selected_0
  unfold sel at hk
  refine R_accessOf A hS hh hf ⟨fun c => ?_, fun c => ?_⟩
  · have c' : ¬ acc D h f = 0 := c
    rw [if_neg c'] at hk
    have K : plain D h f ∧ (D 11 (24 * h + own D h f) = 2 → 1 < acc D h f) ∧ (¬ D 11 (24 * h + own D h f) = 2 → f ∈ Lm D h r (sby D h f)) := by
      rcases K with K | K
      · exact absurd K.1 c'
      · exact K
    obtain ⟨pf, K1, K2⟩ := K
    have go : ∀ face : Int, ((face = 1 ∧ D 11 (24 * h + own D h f) = 2) ∨ (face = 0 ∧ ¬ D 11 (24 * h + own D h f) = 2)) → wX8_selected_33 S f r face k := by
      intro face hface
      unfold wX8_selected_33
      intro T eT
      have oT : offQ S T := by rw [eT]; exact (offQ.refl S).up0 (by decide) (by decide)
      refine R_sel_45 hh W hf f0 pf 24 r T [] (oT.ag A) (oT.hf hS) (Or.inr ⟨hr.1, hr.2, by omega⟩) isL.nil (by rw [eT, up_s]; rfl) (by simp) (fun S1 met o1 o2 o3 o4 => ?_)
      have oS := oT.trans o1
      have A1 := oS.ag A
      have hS1 := oS.hf hS
      rw [List.nil_append] at o2 o3
      change isL S1 39 (ptl D h f (Lm D h r (sby D h f))) at o2
      change S1 0 56 = (ptl D h f (Lm D h r (sby D h f))).length at o3
      change (met = 1 ∧ f ∈ Lm D h r (sby D h f)) ∨ (met = 0 ∧ ¬ f ∈ Lm D h r (sby D h f)) at o4
      obtain ⟨M, hM⟩ : ∃ M, M = ptl D h f (Lm D h r (sby D h f)) := ⟨_, rfl⟩
      rw [← hM] at o2 o3
      have hMok : ∀ x ∈ M, (0 ≤ x ∧ plain D h x) ∧ okX D h x := by
        intro x hx
        rw [hM] at hx
        have h1 := ptl_all _ x hx
        obtain ⟨c, h2, h3, h4, h5⟩ := Lm_ok W hr x h1.1 h1.2.1
        exact ⟨h1.2, h5⟩
      have last : (rps D h f (Lm D h r (sby D h f))).head? = none → wX8_selected_235 S1 f r k := by
        intro e
        rw [e] at hk
        exact R_sel_235 A1 hS1 hh W.1 hr hf (fun S2 o => hk S2 (oS.trans o))
      have hit : ∀ (x : Int) (S2 : St), offQ S S2 → (rps D h f (Lm D h r (sby D h f))).head? = some x → okX D h x → wX8_runs S2 x (fun y => k y S2) := by
        intro x S2 o e hx
        rw [e] at hk
        exact R_runs (o.ag A) (o.hf hS) hh hx (hk S2 o)
      unfold wX8_selected_134 wX8_selected_156
      rcases hface with ⟨e1, e2⟩ | ⟨e1, e2⟩
      · subst e1
        have w := K1 e2
        have hd := rps_wide w ⟨f0, pf⟩ (Lm D h r (sby D h f))
        rw [← hM] at hd
        refine ⟨fun z => absurd z (by decide), fun _ => ⟨fun z => ⟨fun _ => ?_, fun z => absurd z (by decide)⟩, fun z => ?_⟩⟩
        · have : M = [] := List.length_eq_zero_iff.mp (by omega)
          rw [this] at hd
          exact last hd
        · cases hM2 : M with
          | nil => rw [hM2] at o3; simp at o3; omega
          | cons x xs =>
            have : S1 39 0 = x := by
              have := o2 0 (by rw [hM2]; simp)
              rw [hM2] at this
              simpa using this
            rw [this]
            rw [hM2] at hd
            exact hit x S1 oS hd (hMok x (by rw [hM2]; exact List.mem_cons_self)).2
      · subst e1
        have mem := K2 e2
        have o4 : met = 1 := by
          rcases o4 with g | g
          · exact g.1
          · exact absurd mem g.2
        subst o4
        obtain ⟨l, hl1, hl2⟩ := ptl_last ⟨f0, pf⟩ _ mem
        rw [← hM] at hl1 hl2
        have hMl : M.length ≤ 24 := by
          have h1 : ∀ L : List Int, (ptl D h f L).length ≤ L.length := by
            intro L
            induction L with
            | nil => rw [ptl]; simp
            | cons x xs ih =>
              by_cases p : 0 ≤ x ∧ plain D h x
              · by_cases e : x = f
                · subst e; rw [ptl_end p]; simp
                · rw [ptl_pos p e]; simp; exact ih
              · rw [ptl_neg p]; simp; omega
          have h2 : ∀ (N : Nat) (c : Int), (chL D h N c).length ≤ N := by
            intro N
            induction N with
            | zero => intro c; rw [chL]; simp
            | succ N ih =>
              intro c
              by_cases e : c < 0
              · rw [chL_nil _ e]; simp
              · rw [chL_cons (by omega)]; simp; exact ih _
          have h3 := h1 (Lm D h r (sby D h f))
          have h4 := h2 24 r
          rw [hM]
          have h5 : (Lm D h r (sby D h f)).length = (chL D h 24 r).length := by unfold Lm; simp
          omega
        have hhead : (rps D h f (Lm D h r (sby D h f))).head? = (rps D h f M).head? := by
          by_cases w : 1 < acc D h f
          · rw [rps_wide w ⟨f0, pf⟩, ← hM]
            cases hM2 : M with
            | nil => rw [rps]
            | cons x xs =>
              have := (hMok x (by rw [hM2]; exact List.mem_cons_self)).1
              rw [rps_pos (Or.inr ⟨this.1, this.2, Or.inl w⟩)]
              rfl
          · rw [rps_ptl w ⟨f0, pf⟩ _ mem (Lm_once W f0 24 r hr.2), ← hM]
        refine ⟨fun _ => ⟨fun z => absurd rfl z, fun _ => ?_⟩, fun z => absurd rfl z⟩
        refine R_findCan A1 hS1 hh o2 o3 hMl (fun x hx => (hMok x hx).2) (fun S2 g1 g2 => ?_)
        have oS2 : offQ S S2 := fun a j x y => (g1 a j (by omega)).trans (oS a j x y)
        have f56 : S2 0 56 = M.length := (g1 0 56 (by decide)).trans o3
        have f39 : ∀ j, S2 39 j = S1 39 j := fun j => g1 39 j (by decide)
        unfold wX8_selected_167
        refine wlp_for1 M.length (fun i => (rps D h f M).head? = (rps D h f (M.drop i)).head?) ?_ ?_ (by rw [List.drop_zero])
        · intro P i hi hI hP
          show wX8_selected_167_b S2 f r 1 i (fun b0 => P b0) k
          unfold wX8_selected_167_b wX8_selected_192 wX8_selected_217
          have rt := (rps_tI hl1 hl2 (fun x hx => (hMok x hx).1) (l + 1 - i) i (by omega)).2 (by omega)
          have hx := (hMok _ (getD_mem hi)).2
          have win : (i = l ∨ tI D h M i l) → (0 ≤ (i : Int) ∧ (i : Int) < 24) ∧ wX8_runs S2 (S2 39 i) (fun x_3 => k x_3 S2) := by
            intro z
            refine ⟨by omega, ?_⟩
            rw [f39, o2 i hi]
            refine hit _ S2 oS2 ?_ hx
            rw [hhead, hI, rt.1 z]
            rfl
          rw [f56, w32_eq (x := (M.length : Int) - 1) (by omega) (by omega), w32_eq (x := 24 * (i : Int)) (by omega) (by omega), w32_eq (x := 24 * (i : Int) + M.length) (by omega) (by omega), w32_eq (x := 24 * (i : Int) + M.length - 1) (by omega) (by omega)]
          have eq : 24 * (i : Int) + M.length - 1 = 24 * (i : Int) + l := by omega
          rw [eq]
          refine ⟨fun c => by omega, fun _ => ⟨fun z => ⟨fun z2 => absurd z2 (by decide), fun _ => ⟨by omega, fun z2 x ex => ?_, fun z2 => win (Or.inr ?_)⟩⟩, fun z => ⟨fun _ => win (Or.inl (by omega)), fun z2 => absurd z2 (by decide)⟩⟩⟩
          · rw [ex, w32_eq (by omega) (by omega)]
            refine hP ?_
            rw [hI, rt.2 ?_]
            rintro (y | y)
            · omega
            · rcases g2 i l (by omega) (by omega) with w | w
              · omega
              · exact w.2 y
          · rcases g2 i l (by omega) (by omega) with w | w
            · exact w.2
            · exact absurd w.1 z2
        · intro P hI
          show wX8_selected_167_b S2 f r 1 M.length (fun b0 => P b0) k
          unfold wX8_selected_167_b
          rw [f56]
          refine ⟨fun _ => ?_, fun c => by omega⟩
          rw [List.drop_length, ← hhead, rps] at hI
          have A2 := oS2.ag A
          have hS2 := oS2.hf hS
          rw [hI] at hk
          exact R_sel_235 A2 hS2 hh W.1 hr hf (fun S3 o => hk S3 (oS2.trans o))
    refine R_ownerOf A hS hh hf (R_t hS hh hown ?_)
    rw [A 11 _ (by decide) (by decide)]
    exact ⟨by have h1 : 0 ≤ D 28 (120 * h + mem D h f) ∧ D 28 (120 * h + mem D h f) < 24 := hown; omega, fun z => go 0 (Or.inr ⟨rfl, z⟩), fun z => go 1 (Or.inl ⟨rfl, z⟩)⟩
  · have c' : acc D h f = 0 := c
    rw [if_pos c'] at hk
    exact hk S (offQ.refl S)
