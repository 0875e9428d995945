/-! pure: the class's docket: SELECT -/
/-- what holds at place j of the chain -/
def cj (D : St) (h f : Int) (M : List Int) (j : Nat) : Prop := M.getD j 0 = f ∨ (0 ≤ M.getD j 0 ∧ plain D h (M.getD j 0) ∧ (1 < acc D h f ∨ ∃ y, y ∈ rps D h f (M.drop (j + 1)) ∧ rl D h (M.getD j 0) y))
theorem rps_cj {D : St} {h f : Int} {M : List Int} {j : Nat} (hj : j < M.length) : (cj D h f M j → rps D h f (M.drop j) = M.getD j 0 :: rps D h f (M.drop (j + 1))) ∧ (¬ cj D h f M j → rps D h f (M.drop j) = rps D h f (M.drop (j + 1))) := by
  rw [drop_cons hj]
  exact ⟨fun g => rps_pos g, fun g => rps_neg g⟩
theorem rps_mem {D : St} {h f : Int} {M : List Int} (d : Nat) : ∀ i : Nat, i + d = M.length → ∀ y, y ∈ rps D h f (M.drop i) ↔ ∃ j : Nat, i ≤ j ∧ j < M.length ∧ y = M.getD j 0 ∧ cj D h f M j := by
  induction d with
  | zero =>
    intro i hi y
    rw [List.drop_eq_nil_of_le (by omega), rps]
    constructor
    · intro g; exact absurd g (List.not_mem_nil)
    · rintro ⟨j, h1, h2, _⟩; omega
  | succ d ih =>
    intro i hi y
    have ih1 := ih (i + 1) (by omega) y
    have rc := rps_cj (D := D) (h := h) (f := f) (show i < M.length by omega)
    by_cases c : cj D h f M i
    · rw [rc.1 c, List.mem_cons, ih1]
      constructor
      · rintro (g | ⟨j, h1, h2, h3⟩)
        · exact ⟨i, Nat.le_refl _, by omega, g, c⟩
        · exact ⟨j, by omega, h2, h3⟩
      · rintro ⟨j, h1, h2, h3, h4⟩
        by_cases e : j = i
        · subst e; exact Or.inl h3
        · exact Or.inr ⟨j, by omega, h2, h3, h4⟩
    · rw [rc.2 c, ih1]
      constructor
      · rintro ⟨j, h1, h2, h3⟩
        exact ⟨j, by omega, h2, h3⟩
      · rintro ⟨j, h1, h2, h3, h4⟩
        by_cases e : j = i
        · subst e; exact absurd h4 c
        · exact ⟨j, by omega, h2, h3, h4⟩
theorem chL_len (D : St) (h : Int) : ∀ (N : Nat) (c : Int), (chL D h N c).length ≤ N := by
  intro N
  induction N with
  | zero => intro c; rw [chL]; simp
  | succ N ih =>
    intro c
    by_cases e : c < 0
    · rw [chL_nil _ e]; simp
    · rw [chL_cons (by omega)]; simp; exact ih _
section Select
variable {S E D : St} {b h : Int}
theorem C_signatureOf {x : Int} {k : Int → Prop} (Q : CQ S E b D h) (hx : okY D h x) (hk : k (E (me b (sby D h x)) 7)) : wX2_signatureOf S b x k := by
  obtain ⟨q1, q2, q3, q4, R, O⟩ := Q
  obtain ⟨x1, x2, x3, x4⟩ := hx
  have hm := (okX_sby x1).1
  unfold wX2_signatureOf wX2_signatureOf_0
  refine ⟨fun c => ?_, fun c => ?_⟩
  · have hb := O.2.2.2.1
    have hx5 := (x4 c).1
    rw [w32_eq (by omega) (by omega)]
    have e4 : S (b + 5) (x - 1000) = sby D h x := by
      have hB := R.2.2.2.2.1 (x - 1000) (by omega) hx5
      rw [q1 _ _ (by omega) (by omega), hB.2]
      unfold sby
      rw [if_neg (by omega)]
    rw [e4]
    refine ⟨by omega, by omega, fun w ew => ?_⟩
    rw [ew, q1 _ _ (by omega) (by omega)]; exact hk
  · have e : sby D h x = x := by unfold sby; rw [if_pos c]
    rw [e] at hk hm
    refine ⟨by omega, fun w ew => ?_⟩
    rw [ew, q1 _ _ (by omega) (by omega)]; exact hk
theorem C_gatherChain {r q : Int} {k : St → Prop} (Q : CQ S E b D h) (hr : 0 ≤ r ∧ r < D 3 h) (hq : 0 ≤ q ∧ q < D 4 h) (hk : ∀ S', offD S S' → isL S' 1039 (chL D h 24 r) → isL S' 1040 (Lm D h r q) → S' 1037 6 = (chL D h 24 r).length → k S') : wX1_gatherChain S r (E (me b q) 7) k := by
  have O := Q.2.2.2.2.2
  have h24 := Q.n24
  unfold wX1_gatherChain wX1_gatherChain_0
  intro T eT
  have oT : offD S T := by rw [eT]; exact (offD.refl S).up (by omega)
  unfold wX1_gatherChain_10
  refine wlp_of (fun a : Int × Int × St => ∃ (N : Nat) (L : List Int), N ≤ 24 ∧ a.2.1 = 24 - (N : Int) ∧ (a.1 = -1 ∨ (0 ≤ a.1 ∧ a.1 < D 3 h ∧ a.1 < N)) ∧ chL D h 24 r = L ++ chL D h N a.1 ∧ (L.length : Int) = a.2.1 ∧ offD S a.2.2 ∧ isL a.2.2 1039 L ∧ isL a.2.2 1040 (L.map (fun c => mI D h c q)) ∧ a.2.2 1037 6 = a.2.1) (fun a => (24 - a.2.1).toNat) ?_ ⟨24, [], Nat.le_refl _, rfl, Or.inr ⟨hr.1, hr.2, by dsimp only; omega⟩, rfl, rfl, oT, isL.nil, isL.nil, by dsimp only; rw [eT, up_s]⟩
  intro P a ⟨N, L, hN, ei, hc, eL, l1, I1, I2, I3, I4⟩ hP
  obtain ⟨c, i, S1⟩ := a
  dsimp only at ei hc eL l1 I1 I2 I3 I4 hP
  have Q1 := Q.off I1
  have fin : (c < 0 ∨ N = 0) → k S1 := by
    intro z
    have : chL D h N c = [] := by
      rcases z with z | z
      · exact chL_nil _ z
      · rw [z, chL]
    rw [this, List.append_nil] at eL
    refine hk S1 I1 (by rw [eL]; exact I2) (by unfold Lm; rw [eL]; exact I3) (by rw [eL]; omega)
  show wX1_gatherChain_10_b S1 (E (me b q) 7) c i (fun b0 b1 b2 => P (b0, b1, b2)) k
  unfold wX1_gatherChain_10_b
  refine ⟨fun z => fin (Or.inr (by omega)), fun z => ⟨fun z2 => fin (Or.inl (by omega)), fun z2 => ⟨by omega, fun S2 e2 y ey => ?_⟩⟩⟩
  have hc' : 0 ≤ c ∧ c < D 3 h := by omega
  have I1' : offD S S2 := by rw [e2]; exact I1.up (by omega)
  have Q2 := Q.off I1'
  rw [Q2.2.1] at ey
  refine ⟨by rw [ey]; exact isO_b Q.2.2.1, fun w ew => ?_⟩
  rw [Q2.2.1] at ew
  refine ⟨by rw [ew]; exact isO_b Q.2.2.1, by omega, fun v ev => ?_⟩
  have ev : v = ty b c := by rw [ev, ew]; rfl
  rw [ey, ev]
  refine C_mI Q2 hc' hq ⟨by omega, fun S3 e3 S4 e4 u eu => ?_⟩
  have I1'' : offD S S4 := by rw [e4, e3]; exact (I1'.up (by omega)).up (by omega)
  have Q4 := Q.off I1''
  rw [Q4.2.1] at eu
  refine ⟨by rw [eu]; exact isO_b Q.2.2.1, by omega, fun t et x ex j ej => ?_⟩
  have et : t = ty b c := by rw [et, eu]; rfl
  have hU := (O.1.1.2 c hc'.1 hc'.2).2.1
  rw [et, Q4.t (by omega), (Q.rt hc').2.1.2.2] at ex
  rw [w32_eq (by omega) (by omega)] at ej e4
  cases N with
  | zero => omega
  | succ N =>
    rw [chL_cons hc'.1] at eL
    have ec : chL D h N x = chL D h N (D 19 (24 * h + c)) := by
      rw [ex]
      split
      · rename_i e; rw [e, chL_nil _ (by decide), chL_nil _ (by decide)]
      · rfl
    refine hP (x, j, S4) ⟨N, L ++ [c], by omega, by dsimp only; omega, ?_, ?_, ?_, I1'', ?_, ?_, ?_⟩ (by dsimp only; omega)
    · dsimp only
      rw [ex]
      split <;> omega
    · dsimp only
      rw [ec, eL, List.append_assoc]; rfl
    · dsimp only
      simp
      omega
    · dsimp only
      rw [e4, e3]
      refine isL.off (S := S2) ?_ (fun z => by rw [up_n _ (by omega), up_n _ (by omega)])
      rw [e2, ← l1]
      exact I2.snoc
    · dsimp only
      rw [e4]
      refine isL.off (S := S3) ?_ (fun z => by rw [up_n _ (by omega)])
      rw [e3, List.map_append]
      have e5 : isL S2 1040 (L.map (fun c => mI D h c q)) := I3.off (fun z => by rw [e2, up_n _ (by omega)])
      have e6 : i = ((L.map (fun c => mI D h c q)).length : Int) := by rw [List.length_map]; omega
      rw [e6]
      exact e5.snoc
    · dsimp only
      rw [e4, up_s]; omega
theorem Lm_get {r q : Int} {j : Nat} (hj : j < (chL D h 24 r).length) : (Lm D h r q).getD j 0 = mI D h ((chL D h 24 r).getD j 0) q := by
  unfold Lm
  simp [hj]
theorem Lm_len {r q : Int} : (Lm D h r q).length = (chL D h 24 r).length := by unfold Lm; simp
/-- place j of replaces is right -/
def rpR (D S : St) (h f : Int) (M : List Int) (j : Nat) : Prop := (S 1041 j = 1 ∧ cj D h f M j) ∨ (S 1041 j = 0 ∧ ¬ cj D h f M j)
theorem C_markReplacing {r q f : Int} {k : St → Prop} (Q : CQ S E b D h) (hr : 0 ≤ r ∧ r < D 3 h) (hf : okY D h f) (l1 : isL S 1039 (chL D h 24 r)) (l2 : isL S 1040 (Lm D h r q)) (l3 : S 1037 6 = (chL D h 24 r).length) (hk : ∀ S', (∀ a j, ¬ a = 1041 → S' a j = S a j) → (∀ j : Nat, j < (Lm D h r q).length → rpR D S' h f (Lm D h r q) j) → k S') : wX1_markReplacing S f k := by
  have O := Q.2.2.2.2.2
  have h24 := Q.n24
  have hmf := (okX_mem hf.1).1
  have f0 := okY_0 hf
  have n24 := chL_len D h 24 r
  have eln := Lm_len (D := D) (h := h) (r := r) (q := q)
  have hT : ∀ j : Nat, j < (chL D h 24 r).length → 0 ≤ (chL D h 24 r).getD j 0 ∧ (chL D h 24 r).getD j 0 < D 3 h := by
    intro j hj
    have := chL_le O.1 24 r hr.2 _ (getD_mem hj)
    omega
  have hM : ∀ j : Nat, j < (Lm D h r q).length → 0 ≤ (Lm D h r q).getD j 0 → okY D h ((Lm D h r q).getD j 0) ∧ own D h ((Lm D h r q).getD j 0) = (chL D h 24 r).getD j 0 := by
    intro j hj z
    rw [Lm_get (by omega)] at z ⊢
    exact ⟨mI_okY O (hT j (by omega)) z, (mI_rng O.1 (hT j (by omega)) z).1⟩
  have hM1 : ∀ j : Nat, j < (Lm D h r q).length → ¬ 0 ≤ (Lm D h r q).getD j 0 → (Lm D h r q).getD j 0 = -1 := by
    intro j hj z
    rw [Lm_get (by omega)] at z ⊢
    exact mI_m1 O (hT j (by omega)) z
  have main : ∀ w : Int, ((w = 1 ∧ 1 < acc D h f) ∨ (w = 0 ∧ ¬ 1 < acc D h f)) → wX1_markReplacing_17 S f w k := by
    intro w hw
    unfold wX1_markReplacing_17
    intro x ex
    rw [l3, w32_eq (by omega) (by omega)] at ex
    rw [ex]
    unfold wX1_markReplacing_25
    refine wlp_dn (chL D h 24 r).length (fun i S1 => (∀ a j, ¬ a = 1041 → S1 a j = S a j) ∧ ∀ j : Nat, i ≤ j → j < (Lm D h r q).length → rpR D S1 h f (Lm D h r q) j) ?_ ?_ ⟨fun _ _ _ => rfl, fun j z1 z2 => by omega⟩
    · intro P i S1 hi hI hP
      obtain ⟨I1, I2⟩ := hI
      have o1 : offD S S1 := fun a j z => I1 a j (by omega)
      have Q1 := Q.off o1
      have hiM : i < (Lm D h r q).length := by omega
      have e40 : S1 1040 i = (Lm D h r q).getD i 0 := (I1 _ _ (by decide)).trans (l2 i hiM)
      show wX1_markReplacing_25_b S1 f w i (fun b0 b1 => P (b0, b1)) k
      unfold wX1_markReplacing_25_b wX1_markReplacing_88 wX1_markReplacing_92 wX1_markReplacing_93
      have set : ∀ v : Int, ((v = 1 ∧ cj D h f (Lm D h r q) i) ∨ (v = 0 ∧ ¬ cj D h f (Lm D h r q) i)) → ∀ S' : St, S' = up S1 1041 i v → ∀ x_2 : Int, x_2 = w32 ((i : Int) + (-1)) → P (x_2, S') := by
        intro v hv S' e y ey
        rw [ey, w32_eq (by omega) (by omega)]
        have e3 : (i : Int) + -1 = i - 1 := by omega
        rw [e3]
        refine hP S' ⟨fun a j z => by rw [e, up_n _ (fun t => z t.1)]; exact I1 a j z, fun j z1 z2 => ?_⟩
        unfold rpR
        by_cases e4 : j = i
        · subst e4
          rw [e, up_s]
          exact hv
        · rw [e, up_n _ (by omega)]
          exact I2 j (by omega) z2
      have yes : cj D h f (Lm D h r q) i → (0 ≤ (i : Int) ∧ (i : Int) < 24) ∧ (((1 : Int) = 0 ∨ (1 : Int) = 1) ∧ ∀ S_1 : St, S_1 = up S1 1041 i 1 → ∀ x_2 : Int, x_2 = w32 ((i : Int) + (-1)) → P (x_2, S_1)) := fun g => ⟨by omega, Or.inr rfl, set 1 (Or.inl ⟨rfl, g⟩)⟩
      have no : ¬ cj D h f (Lm D h r q) i → (0 ≤ (i : Int) ∧ (i : Int) < 24) ∧ (((0 : Int) = 0 ∨ (0 : Int) = 1) ∧ ∀ S_1 : St, S_1 = up S1 1041 i 0 → ∀ x_2 : Int, x_2 = w32 ((i : Int) + (-1)) → P (x_2, S_1)) := fun g => ⟨by omega, Or.inl rfl, set 0 (Or.inr ⟨rfl, g⟩)⟩
      refine ⟨fun z => by omega, fun _ => ⟨by omega, fun m em => ?_⟩⟩
      rw [e40] at em
      by_cases g : 0 ≤ (Lm D h r q).getD i 0
      · obtain ⟨oY, ow⟩ := hM i hiM g
        refine ⟨fun _ => ⟨fun z => yes (Or.inl (by rw [← em]; exact z)), fun z => ?_⟩, fun z => by omega⟩
        rw [em]
        have ne : ¬ (Lm D h r q).getD i 0 = f := by rw [← em]; exact z
        refine C_memberOf Q1 oY (C_isFree Q1 oY (fun pl => ⟨fun z => absurd z (by decide), fun _ => ⟨fun z => ?_, fun z => ?_⟩⟩) (fun pl => ⟨fun _ => no ?_, fun z => absurd rfl z⟩))
        · refine yes (Or.inr ⟨g, pl, Or.inl ?_⟩)
          rcases hw with a | a
          · exact a.2
          · exact absurd a.1 z
        · have nw : ¬ 1 < acc D h f := by
            rcases hw with a | a
            · omega
            · exact a.2
          unfold wX1_replacesBetween wX1_replacesBetween_0
          intro x ex
          rw [w32_eq (by omega) (by omega)] at ex
          subst ex
          unfold wX1_replacesBetween_4
          have f6 : S1 1037 6 = (chL D h 24 r).length := (I1 _ _ (by decide)).trans l3
          have win : ∀ j : Nat, i < j → j < (Lm D h r q).length → cj D h f (Lm D h r q) j → rl D h ((Lm D h r q).getD i 0) ((Lm D h r q).getD j 0) → cj D h f (Lm D h r q) i := fun j z1 z2 z3 z4 => Or.inr ⟨g, pl, Or.inr ⟨_, (rps_mem ((Lm D h r q).length - (i + 1)) (i + 1) (by omega) _).mpr ⟨j, by omega, z2, rfl, z3⟩, z4⟩⟩
          refine wlp_fr1 (lo := (i : Int) + 1) ((chL D h 24 r).length - (i + 1)) (fun d => ∀ j : Nat, i < j → j < i + 1 + d → ¬ (cj D h f (Lm D h r q) j ∧ rl D h ((Lm D h r q).getD i 0) ((Lm D h r q).getD j 0))) ?_ ?_ (fun j z1 z2 => by omega)
          · intro P' d hd hI' hP'
            have ej : (i : Int) + 1 + d = ((i + 1 + d : Nat) : Int) := by omega
            obtain ⟨j, hj⟩ : ∃ j, j = i + 1 + d := ⟨_, rfl⟩
            rw [← hj] at ej
            rw [ej]
            show wX1_replacesBetween_4_b S1 i j (fun b0 => P' b0) _
            unfold wX1_replacesBetween_4_b
            rw [f6]
            have hjM : j < (Lm D h r q).length := by omega
            have nxt : ¬ (cj D h f (Lm D h r q) j ∧ rl D h ((Lm D h r q).getD i 0) ((Lm D h r q).getD j 0)) → P' ((j : Int) + 1) := by
              intro z
              rw [← ej]
              refine hP' (fun j' z1 z2 => ?_)
              by_cases e : j' = j
              · rw [e]; exact z
              · exact hI' j' z1 (by omega)
            have rp := I2 j (by omega) hjM
            refine ⟨fun z => by omega, fun _ => ⟨by omega, fun z x ex => ?_, fun z => ⟨by omega, ?_⟩⟩⟩
            · rw [ex, w32_eq (by omega) (by omega)]
              refine nxt (fun t => ?_)
              rcases rp with a | a
              · omega
              · exact a.2 t.1
            · have cjj : cj D h f (Lm D h r q) j := by
                rcases rp with a | a
                · exact a.2
                · exact absurd a.1 z
              have e40j : S1 1040 j = (Lm D h r q).getD j 0 := (I1 _ _ (by decide)).trans (l2 j hjM)
              have gj : 0 ≤ (Lm D h r q).getD j 0 := by
                rcases cjj with a | a
                · omega
                · exact a.1
              obtain ⟨oYj, owj⟩ := hM j hjM gj
              have hmj := (okX_mem oYj.1).1
              rw [e40j]
              refine C_memberOf Q1 oYj ?_
              rw [Q1.m hmj, (Q1.rm ⟨hmj.1, oYj.2.1⟩).2.2.1]
              refine ⟨fun t => ⟨fun z => absurd z (by decide), fun _ => yes (win j (by omega) hjM cjj (Or.inl ?_))⟩, fun t y ey => ?_⟩
              · show 1 < D 30 (120 * h + mem D h ((Lm D h r q).getD j 0))
                omega
              · rw [Q1.2.1] at ey
                have e39 : S1 1039 i = (chL D h 24 r).getD i 0 := (I1 _ _ (by decide)).trans (l1 i (by omega))
                have e39j : S1 1039 j = (chL D h 24 r).getD j 0 := (I1 _ _ (by decide)).trans (l1 j (by omega))
                rw [ey, e39, e39j]
                refine ⟨isO_b Q.2.2.1, by omega, by omega, C_sam Q1 (hT i (by omega)) (hT j (by omega)) (fun s => ⟨fun z => absurd z (by decide), fun _ => ⟨fun z => absurd z (by decide), fun _ => yes (win j (by omega) hjM cjj (Or.inr ?_))⟩⟩) (fun s => ⟨fun _ x ex => ?_, fun z => absurd rfl z⟩)⟩
                · rw [ow, owj]; exact s
                · rw [ex, w32_eq (by omega) (by omega)]
                  refine nxt (fun u => ?_)
                  rcases u.2 with v | v
                  · have v' : 1 < D 30 (120 * h + mem D h ((Lm D h r q).getD j 0)) := v
                    omega
                  · rw [ow, owj] at v; exact s v
          · intro P' hI'
            show wX1_replacesBetween_4_b S1 i ((i : Int) + 1 + (((chL D h 24 r).length - (i + 1) : Nat) : Int)) (fun b0 => P' b0) _
            unfold wX1_replacesBetween_4_b
            rw [f6]
            refine ⟨fun _ => ⟨fun _ => no ?_, fun z => absurd rfl z⟩, fun z => by omega⟩
            rintro (t | ⟨_, _, t | ⟨y, t1, t2⟩⟩)
            · exact ne t
            · exact nw t
            · obtain ⟨j, z1, z2, z3, z4⟩ := (rps_mem ((Lm D h r q).length - (i + 1)) (i + 1) (by omega) y).mp t1
              exact hI' j (by omega) (by omega) ⟨z4, by rw [← z3]; exact t2⟩
        · rintro (t | ⟨_, t, _⟩)
          · exact ne t
          · exact pl t
      · have e1 := hM1 i hiM g
        refine ⟨fun z => absurd (em.trans e1) z, fun _ => ⟨by omega, set 0 (Or.inr ⟨rfl, ?_⟩)⟩⟩
        rintro (t | ⟨t, _⟩)
        · omega
        · exact g t
    · intro P S1 hI
      obtain ⟨I1, I2⟩ := hI
      show wX1_markReplacing_25_b S1 f w (-1) (fun b0 b1 => P (b0, b1)) k
      unfold wX1_markReplacing_25_b
      exact ⟨fun _ => hk S1 I1 (fun j hj => I2 j (Nat.zero_le _) hj), fun z => absurd z (by decide)⟩
  unfold wX1_markReplacing wX1_markReplacing_0
  refine C_memberOf Q hf ?_
  rw [Q.m hmf, (Q.rm ⟨hmf.1, hf.2.1⟩).2.2.1]
  have ea : acc D h f = D 30 (120 * h + mem D h f) := rfl
  exact ⟨fun z => main 0 (Or.inr ⟨rfl, by omega⟩), fun z => main 1 (Or.inl ⟨rfl, by omega⟩)⟩
theorem C_select {f r : Int} {k : Int → St → Prop} (Q : CQ S E b D h) (hr : 0 ≤ r ∧ r < D 3 h) (hc : ¬ D 11 (24 * h + r) = 2) (hf : okY D h f) (hk : ∀ S', offD S S' → k (sel D h f r) S') : wX1_select S f r k := by
  have O := Q.2.2.2.2.2
  have h24 := Q.n24
  have hmf := (okX_mem hf.1).1
  have hsf := (okX_sby hf.1).1
  have n24 := chL_len D h 24 r
  have eln := Lm_len (D := D) (h := h) (r := r) (q := sby D h f)
  unfold wX1_select wX1_select_0
  unfold sel at hk
  refine C_memberOf Q hf ?_
  unfold wX3_isOwn wX3_isOwn_0
  rw [Q.m hmf, (Q.rm ⟨hmf.1, hf.2.1⟩).2.2.1]
  refine ⟨fun z => ⟨fun _ y ey => ?_, fun z2 => absurd rfl z2⟩, fun z => ⟨fun z2 => absurd z2 (by decide), fun _ => ?_⟩⟩
  · have z' : ¬ acc D h f = 0 := z
    rw [if_neg z'] at hk
    rw [Q.2.1] at ey
    rw [ey]
    refine ⟨isO_b Q.2.2.1, C_signatureOf Q hf (C_gatherChain Q hr ⟨hsf.1, hf.2.2.1⟩ (fun S1 o1 l1 l2 l3 => C_markReplacing (Q.off o1) hr hf l1 l2 l3 (fun S2 o2 rp => ?_)))⟩
    have o2' : offD S S2 := o1.trans (fun a j z => o2 a j (by omega))
    have Q2 := Q.off o2'
    have f6 : S2 1037 6 = (Lm D h r (sby D h f)).length := (o2 _ _ (by decide)).trans (by rw [eln]; exact l3)
    unfold wX1_select_36
    refine wlp_for1 (Lm D h r (sby D h f)).length (fun i => (rps D h f (Lm D h r (sby D h f))).head? = (rps D h f ((Lm D h r (sby D h f)).drop i)).head?) ?_ ?_ (by rw [List.drop_zero])
    · intro P i hi hI hP
      show wX1_select_36_b S2 r (E (me b (sby D h f)) 7) i (fun b0 => P b0) k
      unfold wX1_select_36_b
      rw [f6]
      have rc := rps_cj (D := D) (h := h) (f := f) hi
      refine ⟨fun z => by omega, fun _ => ⟨by omega, fun z x ex => ?_, fun z => ⟨by omega, ?_⟩⟩⟩
      · rw [ex, w32_eq (by omega) (by omega)]
        refine hP ?_
        rw [hI, rc.2]
        rcases rp i hi with a | a
        · omega
        · exact a.2
      · have c : cj D h f (Lm D h r (sby D h f)) i := by
          rcases rp i hi with a | a
          · exact a.2
          · exact absurd a.1 z
        have e40 : S2 1040 i = (Lm D h r (sby D h f)).getD i 0 := (o2 _ _ (by decide)).trans (l2 i hi)
        have g0 : 0 ≤ (Lm D h r (sby D h f)).getD i 0 := by
          rcases c with a | a
          · have := okY_0 hf; omega
          · exact a.1
        have oY : okY D h ((Lm D h r (sby D h f)).getD i 0) := by
          rw [Lm_get (by omega)] at g0 ⊢
          have := chL_le O.1 24 r hr.2 _ (getD_mem (show i < (chL D h 24 r).length by omega))
          exact mI_okY O (by omega) g0
        rw [hI, rc.1 c] at hk
        rw [e40]
        have hk2 := hk S2 o2'
        change k (rns D h ((Lm D h r (sby D h f)).getD i 0)) S2 at hk2
        unfold rns at hk2
        refine C_isAbstract Q2 oY (fun t => ⟨fun z => absurd z (by decide), fun _ => ?_⟩) (fun t => ⟨fun _ => ⟨by omega, ?_⟩, fun z => absurd rfl z⟩)
        · rwa [if_pos t] at hk2
        · rwa [if_neg t] at hk2
    · intro P hI
      show wX1_select_36_b S2 r (E (me b (sby D h f)) 7) (Lm D h r (sby D h f)).length (fun b0 => P b0) k
      unfold wX1_select_36_b
      rw [f6]
      rw [List.drop_length, rps] at hI
      rw [hI] at hk
      refine ⟨fun _ => C_gatherFaces Q2 hr ⟨hsf.1, hf.2.2.1⟩ (fun S3 o3 g1 g2 => ?_), fun z => by omega⟩
      obtain ⟨k1, k2⟩ := gfL_ok (q := sby D h f) Q hr
      refine C_soleBody (Q2.off o3) g1 g2 k1 k2 ?_
      have : gfL D h r (sby D h f) = caL D h r (sby D h f) := by unfold gfL; rw [if_neg (fun z => hc z.1)]
      rw [this]
      exact hk S3 (o2'.trans o3)
  · have z' : acc D h f = 0 := z
    rw [if_pos z'] at hk
    exact hk S (offD.refl S)
end Select
