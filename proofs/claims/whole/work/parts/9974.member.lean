/-! pure: reading: a member, both together -/
def Rw (S : St) (b m t ac fo : Int) : Prop := S (me b m) 1 = t ∧ S (me b m) 2 = ac ∧ S (me b m) 3 = fo ∧ S (me b m) 4 = 0 ∧ S (me b m + 1) 0 = -9 ∧ S (me b m + 1) 1 = -9 ∧ S (me b m + 1) 2 = -2
def oR (S S' : St) (b m : Int) : Prop := ∀ a j, ¬ (a = 1032 ∧ ((4 ≤ j ∧ j ≤ 6) ∨ j = 14)) → ¬ (me b m ≤ a ∧ a ≤ me b m + 2) → S' a j = S a j
def oQ (D D' : St) : Prop := ∀ a j, ¬ (a = 0 ∧ ((4 ≤ j ∧ j ≤ 7) ∨ j = 48)) → D' a j = D a j
def fcq (D : St) (h t fc : Int) : Prop := (fc = 1 ∧ D 11 (24 * h + t) = 2) ∨ (fc = 0 ∧ ¬ D 11 (24 * h + t) = 2)
def wrq (fc a s wr : Int) : Prop := (wr = 0 ∨ wr = 1) ∧ (wr = 1 ↔ (fc = 1 ∧ a = 0 ∧ s < 0))
section Member
variable {T te so va pl : Int → Int} {n N i b h t m M0 base : Int} {S D : St}
theorem FO_pre {Sx Dx S' D' : St} (a : offFam S Sx b) (d : offH D Dx h) (g : FO Sx Dx b h S' D') : FO S D b h S' D' := by
  obtain ⟨f, p, f1, b1, b2, b3, b4, b5, b6⟩ := g
  exact ⟨f, p, f1, b1, b2, b3, b4, a.tr b5, d.tr b6⟩
theorem C_mclear {k : St → Prop} {x : Int} (h1 : ∀ S', S' x 1 = t → S' x 2 = 1 → S' x 3 = 0 → S' x 4 = 0 → S' (x + 1) 0 = -9 → S' (x + 1) 1 = -9 → S' (x + 1) 2 = -2 → (∀ a j, ¬ (x ≤ a ∧ a ≤ x + 2) → S' a j = S a j) → k S') : wX3_clear S x t k := by
  unfold wX3_clear wX3_clear_0
  intro S1 e1 S2 e2 S3 e3 S4 e4 S5 e5 S6 e6 S7 e7 S8 e8
  refine h1 S8 ?_ ?_ ?_ ?_ ?_ ?_ ?_ (fun a j g => ?_)
  · rw [e8, up_n _ (by omega), e7, up_n _ (by omega), e6, up_n _ (by omega), e5, up_n _ (by omega), e4, up_n _ (by omega), e3, up_n _ (by omega), e2, up_n _ (by omega), e1, up_s]
  · rw [e8, up_n _ (by omega), e7, up_n _ (by omega), e6, up_n _ (by omega), e5, up_n _ (by omega), e4, up_n _ (by omega), e3, up_s]
  · rw [e8, up_n _ (by omega), e7, up_n _ (by omega), e6, up_n _ (by omega), e5, up_n _ (by omega), e4, up_s]
  · rw [e8, up_n _ (by omega), e7, up_n _ (by omega), e6, up_n _ (by omega), e5, up_s]
  · rw [e8, up_n _ (by omega), e7, up_n _ (by omega), e6, up_s]
  · rw [e8, up_n _ (by omega), e7, up_s]
  · rw [e8, up_s]
  · rw [e8, up_n _ (by omega), e7, up_n _ (by omega), e6, up_n _ (by omega), e5, up_n _ (by omega), e4, up_n _ (by omega), e3, up_n _ (by omega), e2, up_n _ (by omega), e1, up_n _ (by omega)]
theorem fM_one {S' : St} {y : Int} (o : ∀ z j, ¬ (z = 1032 ∧ 4 ≤ j ∧ j ≤ 6) → ¬ (z = me b m ∧ j = y) → S' z j = S z j) : fM S S' b m := fun z j g1 g2 => o z j g1 (by omega)
theorem fM_two {S' : St} (o : ∀ z j, ¬ (z = me b m ∧ (j = 2 ∨ j = 3)) → S' z j = S z j) : fM S S' b m := fun z j g1 g2 => o z j (by omega)
theorem CTk_two {S' : St} (hb : b = 2 ∨ b = 515) (hm : 0 ≤ m ∧ m ≤ 120) (o : ∀ z j, ¬ (z = me b m ∧ (j = 2 ∨ j = 3)) → S' z j = S z j) (C : CTk N so va pl S i) : CTk N so va pl S' i := C.off (fun z j g => o z j (by unfold me; omega))
theorem oR_f {S1 S' : St} (a : oR S S1 b m) (g : fM S1 S' b m) : oR S S' b m := fun x j g1 g2 => (g x j (by omega) g2).trans (a x j g1 g2)
theorem oQ_N {D1 D' : St} (a : oQ D D1) (g : offN D1 D') : oQ D D' := fun x j g1 => (g x j (by omega)).trans (a x j g1)
theorem oR_fam {S' : St} (hb : b = 2 ∨ b = 515) (hm : 0 ≤ m ∧ m ≤ 120) (o : oR S S' b m) : offFam S S' b := ⟨fun a j g1 g2 => o a j (by omega) (by unfold me; omega), fun u u0 u1 => o _ _ (by unfold ty; omega) (by unfold ty me; omega)⟩
theorem oQ_H {D' : St} (o : oQ D D') : offH D D' h := offH_0 (fun a j g => o a j (by omega))
theorem accv_of {S2 S3 S4 : St} {fc a x1 f : Int} (hf : (fc = 1 ∧ f = 2) ∨ (fc = 0 ∧ ¬ f = 2)) (t2 : S (me b m) 2 = 1) (hx1 : (a < 0 ∧ x1 = 0 ∧ S2 (me b m) 2 = S (me b m) 2) ∨ (0 ≤ a ∧ x1 = 1 ∧ S2 (me b m) 2 = a)) (e32 : S3 (me b m) 2 = S2 (me b m) 2) (y1 : f = 2 ∧ x1 = 0 → S4 (me b m) 2 = 3) (y2 : ¬ (f = 2 ∧ x1 = 0) → S4 (me b m) 2 = S3 (me b m) 2) : S4 (me b m) 2 = accv fc a := by
  unfold accv
  rcases hx1 with w | w
  · rw [if_neg (by omega)]
    rcases hf with z | z
    · rw [if_neg (by omega)]; exact y1 ⟨z.2, w.2.1⟩
    · rw [if_pos z.1, y2 (fun q => z.2 q.1), e32, w.2.2, t2]
  · rw [if_pos w.1, y2 (fun q => by omega), e32, w.2.2]
theorem shpv_of {S2 S3 S4 : St} {fc s x2 f : Int} (hf : (fc = 1 ∧ f = 2) ∨ (fc = 0 ∧ ¬ f = 2)) (e23 : S2 (me b m) 3 = 0) (hx2 : (s < 0 ∧ x2 = 0 ∧ S3 (me b m) 3 = S2 (me b m) 3) ∨ (0 ≤ s ∧ x2 = 1 ∧ S3 (me b m) 3 = s)) (y3 : f = 2 ∧ x2 = 0 → S4 (me b m) 3 = 2) (y4 : ¬ (f = 2 ∧ x2 = 0) → S4 (me b m) 3 = S3 (me b m) 3) : S4 (me b m) 3 = shpv fc s := by
  unfold shpv
  rcases hx2 with w | w
  · rw [if_neg (by omega)]
    rcases hf with z | z
    · rw [if_neg (by omega)]; exact y3 ⟨z.2, w.2.1⟩
    · rw [if_pos z.1, y4 (fun q => z.2 q.1), w.2.2, e23]
  · rw [if_pos w.1, y4 (fun q => by omega), w.2.2]
theorem hw_of {S4 : St} {fc a s wr : Int} (hfc : fc = 0 ∨ fc = 1) (v2 : S4 (me b m) 2 = accv fc a) (v3 : S4 (me b m) 3 = shpv fc s) (s2a : s = 2 → ¬ a = 0) (hw : wrq fc a s wr) : (wr = 1 ∧ S4 (me b m) 2 = 0 ∧ S4 (me b m) 3 = 2) ∨ (wr = 0 ∧ ¬ (S4 (me b m) 2 = 0 ∧ S4 (me b m) 3 = 2)) := by
  obtain ⟨hwr, hwr2⟩ := hw
  rw [v2, v3]
  unfold accv shpv
  rcases hwr with w | w
  · right
    refine ⟨w, fun q => ?_⟩
    have nw : ¬ (fc = 1 ∧ a = 0 ∧ s < 0) := fun g => by have := hwr2.mpr g; omega
    obtain ⟨g1, g2⟩ := q
    by_cases ca : 0 ≤ a
    · rw [if_pos ca] at g1
      by_cases cs : 0 ≤ s
      · rw [if_pos cs] at g2
        exact s2a g2 g1
      · rw [if_neg cs] at g2
        by_cases cf : fc = 0
        · rw [if_pos cf] at g2; exact absurd g2 (by decide)
        · exact nw ⟨by omega, g1, by omega⟩
    · rw [if_neg ca] at g1
      by_cases cf : fc = 0
      · rw [if_pos cf] at g1; exact absurd g1 (by decide)
      · rw [if_neg cf] at g1; exact absurd g1 (by decide)
  · left
    obtain ⟨g1, g2, g3⟩ := hwr2.mp w
    refine ⟨w, ?_, ?_⟩
    · rw [if_pos (by omega)]; exact g2
    · rw [if_neg (by omega), if_neg (by omega)]
theorem r86no {Dx : St} {x s fc : Int} {k' : St → Prop} (g : ¬ Dx 0 8 = 0) (hk : k' Dx) : wX8_readMember_86 Dx t (24 * h + t) fc x s k' := by
  unfold wX8_readMember_86 wX8_goesOn wX8_goesOn_0
  exact ⟨fun _ => ⟨fun z => absurd rfl z, fun _ => hk⟩, fun z => absurd z g⟩
theorem r86go {Dx : St} {x s fc wr : Int} {k' : St → Prop} (hfc : fc = 0 ∨ fc = 1) (g : Dx 0 8 = 0) (hw : wrq fc x s wr) (hk : wX8_readMember_117 Dx t (24 * h + t) fc x s t wr k') : wX8_readMember_86 Dx t (24 * h + t) fc x s k' := by
  obtain ⟨hwr, hwr2⟩ := hw
  have e0 : wr = 0 → wX8_readMember_116 Dx t (24 * h + t) fc x s t k' := fun w => by rw [w] at hk; exact hk
  unfold wX8_readMember_86 wX8_goesOn wX8_goesOn_0
  refine ⟨fun z => absurd g z, fun _ => ⟨fun _ => ⟨fun z => e0 (by omega), fun z => ⟨fun z2 => e0 (by omega), fun z2 => ⟨fun z3 => e0 (by omega), fun z3 => ?_⟩⟩⟩, fun z => absurd z (by decide)⟩⟩
  have : wr = 1 := hwr2.mpr ⟨by omega, z2, z3⟩
  rw [this] at hk; exact hk
/-- from its first token to its result -/
theorem J_mfirst {k : Int → St → Prop} {fc : Int} {S0 D0 : St} (hb : b = 2 ∨ b = 515) (ht : 0 ≤ t ∧ t < 24) (h01 : 0 ≤ h ∧ h ≤ 1) (K : Tks T n N te so va pl) (C : CTk N so va pl S i) (R : RTk T n te so va pl D i) (M : Mb S b D h t m) (hf : fcq D h t fc) (rw0 : Rw S b m t 1 0) (oc : oR S0 S b m) (od : oQ D0 D)
    (run0 : ∀ k' : St → Prop, wX8_readAccess D fc (fun x_2 S_2 => wX8_goesOn S_2 (fun x_3 => (x_3 = 0 → wX8_readMember_86 S_2 t (24 * h + t) fc x_2 (-1) k') ∧ (¬ x_3 = 0 → (0 ≤ 24 * h + t ∧ 24 * h + t < 48) ∧ (wX8_readShape S_2 (S_2 11 (24 * h + t)) x_2 (fun x_8 S_8 => wX8_readMember_86 S_8 t (24 * h + t) fc x_2 x_8 k'))))) → wX8_readMember D0 t k')
    (h1 : ∀ S' D' j a s wr, i ≤ j → CTk N so va pl S' j → RTk T n te so va pl D' j → Mb S' b D' h t m → Rw S' b m t (accv fc a) (shpv fc s) → oR S0 S' b m → oQ D0 D' → (a = 2 → fc = 0) → (s = 2 → ¬ a = 0) → wrq fc a s wr → (∀ k' : St → Prop, wX8_readMember_117 D' t (24 * h + t) fc a s t wr k' → wX8_readMember D0 t k') → (0 ≤ a → a = 0 ∨ a = 2 ∨ a = 3) → wX4_readMember_175 S' k)
    (h0 : ∀ S' D', FO S0 D0 b h S' D' → (∀ k' : St → Prop, k' D' → wX8_readMember D0 t k') → k 0 S') :
    (S 1032 5 = 206 → wX4_readMember_63 S k) ∧ (¬ S 1032 5 = 206 → (S 1032 5 = 207 → wX4_readMember_63 S k) ∧ (¬ S 1032 5 = 207 → (¬ S 1032 5 = 208 → wX4_readMember_68 S 0 k) ∧ (S 1032 5 = 208 → wX4_readMember_63 S k))) := by
  have hi : 0 ≤ 24 * h + t ∧ 24 * h + t < 48 := by omega
  have hm := M.2.2.1
  have fam0 := oR_fam hb hm oc
  have half0 : offH D0 D h := oQ_H od
  obtain ⟨t1, t2, t3, t4, t5, t6, t7⟩ := rw0
  have x1032 : ¬ me b m = 1032 := by unfold me; omega
  have x1032' : ¬ me b m + 1 = 1032 := by unfold me; omega
  have hfc : fc = 0 ∨ fc = 1 := by unfold fcq at hf; omega
  refine J_acc hb ht K C R M hf (fun S2 D2 j2 a x1 ij2 C2 r2 ha hx1 oc2 od2 a2f run2 => ?_) (fun S2 D2 a fo run2 => ?_)
  rotate_left
  · have fo' := FO_pre fam0 half0 fo
    have met := FO_met fo'
    refine h0 S2 D2 fo' (fun k' hk => run0 k' (run2 _ ?_))
    unfold wX8_goesOn wX8_goesOn_0
    exact ⟨fun _ => ⟨fun _ => r86no met hk, fun z => absurd rfl z⟩, fun z => absurd z met⟩
  have f2 := fM_one oc2
  have M2 := M.tr hb ht f2 (gM_N od2)
  have d11 : D2 11 (24 * h + t) = D 11 (24 * h + t) := od2 _ _ (fun w => absurd w.1 (by decide))
  have run2' : ∀ k' : St → Prop, wX8_readShape D2 (D 11 (24 * h + t)) a (fun x_8 S_8 => wX8_readMember_86 S_8 t (24 * h + t) fc a x_8 k') → wX8_readMember D0 t k' := by
    intro k' hk
    refine run0 k' (run2 _ ?_)
    unfold wX8_goesOn wX8_goesOn_0
    rw [d11]
    exact ⟨fun z => absurd r2.2.2.2.2.2.2.2 z, fun _ => ⟨fun z => absurd z (by decide), fun _ => ⟨hi, hk⟩⟩⟩
  have ow : S2 (me b m) 2 = 0 ↔ a = 0 := by
    rcases hx1 with w | w
    · rw [w.2.2, t2]; clear ha hf hfc; omega
    · rw [w.2.2]
  have oc2' := oR_f oc f2
  have od2' := oQ_N od od2
  refine J_form (a := a) hb ht K C2 r2 M2 d11 ow (fun S3 D3 j3 s x2 ij3 C3 r3 hs hx2 oc3 od3 s2a run3 => ?_) (fun S3 D3 s fo run3 => ?_)
  rotate_left
  · have fo' := FO_pre (oR_fam hb hm oc2') (oQ_H od2') fo
    exact h0 S3 D3 fo' (fun k' hk => run2' k' (run3 _ (r86no (FO_met fo') hk)))
  have f3 := fM_one oc3
  have M3 := M2.tr hb ht f3 (gM_N od3)
  have d11' : D3 11 (24 * h + t) = D 11 (24 * h + t) := (od3 _ _ (fun w => absurd w.1 (by decide))).trans d11
  refine C_dflt (x1 := x1) (x2 := x2) hb ht M3 d11' (fun S4 y1 y2 y3 y4 oc4 => ?_)
  have f4 := fM_two oc4
  have C4 := CTk_two hb hm oc4 C3
  have M4 := M3.tr hb ht f4 (D' := D3) (fun _ _ _ _ _ => rfl)
  have e23 : S2 (me b m) 3 = 0 := (oc2 _ _ (fun w => x1032 w.1) (fun w => absurd w.2 (by decide))).trans t3
  have e32 : S3 (me b m) 2 = S2 (me b m) 2 := oc3 _ _ (fun w => x1032 w.1) (fun w => absurd w.2 (by decide))
  have v2 := accv_of hf t2 hx1 e32 y1 y2
  have v3 := shpv_of hf e23 hx2 y3 y4
  have row : ∀ z j, ¬ z = 1032 → ¬ (z = me b m ∧ (j = 2 ∨ j = 3)) → S4 z j = S z j := fun z j g g2 => ((oc4 z j g2).trans (oc3 z j (fun w => g w.1) (fun w => g2 ⟨w.1, Or.inr w.2⟩))).trans (oc2 z j (fun w => g w.1) (fun w => g2 ⟨w.1, Or.inl w.2⟩))
  obtain ⟨wr, hwr⟩ : ∃ wr : Int, wrq fc a s wr := by
    by_cases c : fc = 1 ∧ a = 0 ∧ s < 0
    · exact ⟨1, Or.inr rfl, fun _ => c, fun _ => rfl⟩
    · exact ⟨0, Or.inl rfl, fun w => absurd w (by decide), fun w => absurd w c⟩
  have nx : ¬ me b m + 1 = me b m := by clear ha hs hf hfc hx1 hx2; omega
  refine h1 S4 D3 j3 a s wr (Int.le_trans ij2 ij3) C4 r3 M4 ⟨?_, v2, v3, ?_, ?_, ?_, ?_⟩ (oR_f (oR_f oc2' f3) f4) (oQ_N od2' od3) a2f s2a hwr (fun k' hk => run2' k' (run3 _ (r86go hfc r3.2.2.2.2.2.2.2 hwr hk))) (fun a0 => by clear hs hf hfc hx1 hx2; omega)
  · rw [row _ _ x1032 (fun w => by rcases w.2 with q | q <;> exact absurd q (by decide))]; exact t1
  · rw [row _ _ x1032 (fun w => by rcases w.2 with q | q <;> exact absurd q (by decide))]; exact t4
  · rw [row _ _ x1032' (fun w => nx w.1)]; exact t5
  · rw [row _ _ x1032' (fun w => nx w.1)]; exact t6
  · rw [row _ _ x1032' (fun w => nx w.1)]; exact t7
end Member
