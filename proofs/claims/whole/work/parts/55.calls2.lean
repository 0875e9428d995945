/-! pure: the public calls that judge; the two stores alike -/
section Judging
variable {S E D : St} {b h : Int}
def offC' (S S' : St) : Prop := ∀ a j, a < 1037 → S' a j = S a j
theorem PC.off {S1 : St} (P : PC S E b D h) (o : offC' S S1) : PC S1 E b D h := ⟨fun a j x y => (o a j (by have := P.2.2.1; omega)).trans (P.1 a j x y), (o 0 4 (by decide)).trans P.2.1, P.2.2⟩
theorem C_open {k : St → Prop} {y : Int} (P : PC S E b D h) (ey : y = S 0 4) (hk : ∀ S', offC' S S' → CQ S' E b D h → k S') : isO 2 y ∧ wX1_open S y k := by
  rw [P.2.1] at ey
  rw [ey]
  refine ⟨isO_b P.2.2.1, ?_⟩
  unfold wX1_open wX1_open_0
  intro T eT
  have hb := P.2.2.1
  have o : offC' S T := fun a j z => by rw [eT, up_n _ (by omega)]
  exact hk T o ⟨(P.off o).1, by rw [eT, up_s], P.2.2⟩
theorem offJ.c {S1 S2 : St} (o : offC' S S1) (g : offJ S1 S2) : offC' S S2 := fun a j z => (g a j (Or.inl z)).trans (o a j z)
theorem offD.c {S1 S2 : St} (o : offC' S S1) (g : offD S1 S2) : offC' S S2 := g.j.c o
theorem CQ.sig {q : Int} (Q : CQ S E b D h) (hq : inM D h q) : S (me b q) 7 = E (me b q) 7 := Q.m ⟨hq.1, by have := hq.2; have := Q.2.2.2.2.2.2.2.1.2; omega⟩
def tol (D : St) (h x : Int) : Int := if x < 1000 then x else 1000 + mem D h x
theorem C_tell {x : Int} {k : Int → Prop} (P : PC S E b D h) (hx : x < 1000 ∨ okY D h x) (hk : k (tol D h x)) : wX7_tell S x k := by
  unfold wX7_tell wX7_tell_0
  unfold tol at hk
  refine ⟨fun c y ey => ?_, fun c => by rwa [if_pos c] at hk⟩
  rw [if_neg (by omega)] at hk
  have oY : okY D h x := by
    rcases hx with g | g
    · omega
    · exact g
  rw [P.2.1] at ey
  rw [ey]
  refine ⟨isO_b P.2.2.1, ?_⟩
  have hb := P.2.2.2.2.2.2.2.2.1
  have hx5 := (oY.2.2.2 c).1
  have hm := (okX_mem oY.1).1
  unfold wX2_behind wX2_behind_0
  rw [w32_eq (by omega) (by omega)]
  have e4 : S (b + 4) (x - 1000) = mem D h x := by
    have hB := P.2.2.2.2.1.2.2.2.2.1 (x - 1000) (by omega) hx5
    rw [P.1 _ _ (by omega) (by omega), hB.1]
    unfold mem
    rw [if_neg (by omega)]
  rw [e4]
  refine ⟨fun _ => ⟨by omega, ?_⟩, fun z => by omega⟩
  show k (w32 (1000 + mem D h x))
  rw [w32_eq (by omega) (by omega)]
  exact hk
theorem fnd_okY {t q : Int} (O : okA D h) (ht : inT D h t) (g : 0 ≤ fnd D h t q) : okY D h (fnd D h t q) := by
  obtain ⟨u, h1, h2, _⟩ := fnd_mem O.1 ht g
  rw [h2] at g ⊢
  exact mI_okY O h1 g
theorem fnd_m1 {t q : Int} (O : okA D h) (ht : inT D h t) (g : ¬ 0 ≤ fnd D h t q) : fnd D h t q = -1 := by
  unfold fnd at g ⊢
  by_cases z : 0 ≤ lkC D h q 24 t
  · rw [if_pos z] at g; exact absurd z g
  · rw [if_neg z] at g ⊢
    have hok : ∀ x ∈ caL D h t q, 0 ≤ x := fun x hx => (caL_mem O.1 ht x hx).elim (fun u hu => hu.2.2.1)
    cases eL : caL D h t q with
    | nil => rfl
    | cons y ys =>
      rw [eL] at g hok
      exfalso
      apply g
      unfold fcs
      dsimp only
      split
      · rename_i x hx
        have : x ∈ bdL D h (y :: ys) := by rw [hx]; exact List.mem_cons_self
        exact hok x (spN_sub D h _ _ (Nat.le_refl _) x (List.mem_filter.mp this).1)
      · exact hok y List.mem_cons_self
noncomputable def looA (D : St) (h t m : Int) : Int := cif (inT D h t ∧ inM D h m) (if fnd D h t m < 0 then -1 else tol D h (fnd D h t m)) (-11)
theorem C_lookup {t m : Int} {k : Int → St → Prop} (P : PC S E b D h) (hk : ∀ S', offC' S S' → k (looA D h t m) S') : wX7_lookup S t m k := by
  unfold wX7_lookup wX7_lookup_0
  unfold looA at hk
  have rf : offC' S S := fun _ _ _ => rfl
  refine C_isT P (fun ht => ⟨fun z => absurd z (by decide), fun _ => C_isM P (fun hm => ⟨fun _ y ey => C_open P ey (fun T oT Q w ew => ?_), fun z => absurd z (by decide)⟩) (fun hm => ⟨fun z => absurd rfl z, fun _ => by have := hk S rf; rwa [cif_neg (fun g => hm g.2)] at this⟩)⟩) (fun ht => ⟨fun _ => by have := hk S rf; rwa [cif_neg (fun g => ht g.1)] at this, fun z => absurd rfl z⟩)
  rw [cif_pos ⟨ht, hm⟩] at hk
  have PT := P.off oT
  rw [PT.2.1] at ew
  refine ⟨by rw [ew]; exact isO_b P.2.2.1, ⟨hm.1, by have := hm.2; have := P.m120; omega⟩, fun x ex => ?_⟩
  have ex : x = me b m := by rw [ex, ew]; rfl
  rw [ex, Q.sig hm]
  refine C_find Q ht hm (fun S1 o1 => ?_)
  have oC := o1.c oT
  have hk := hk S1 oC
  by_cases g : 0 ≤ fnd D h t m
  · rw [if_neg (by omega)] at hk
    exact C_tell (P.off oC) (Or.inr (fnd_okY P.2.2.2.2.2 ht g)) hk
  · rw [if_pos (by omega)] at hk
    rw [fnd_m1 P.2.2.2.2.2 ht g]
    exact C_tell (P.off oC) (Or.inl (by decide)) hk
theorem R_lookup {t m : Int} {k : Int → St → Prop} (P : PR S D h) (hk : ∀ S', offG S S' → k (looA D h t m) S') : wX8_lookup S t m k := by
  unfold wX8_lookup wX8_lookup_0
  unfold looA at hk
  refine R_isT P (fun ht S1 o hS1 => ⟨fun z => absurd z (by decide), fun _ => R_isM (P.off o) (fun hm S2 o2 hS2 => ⟨fun _ => ?_, fun z => absurd z (by decide)⟩) (fun hm S2 o2 hS2 => ⟨fun z => absurd rfl z, fun _ => by have := hk S2 (o.trans o2); rwa [cif_neg (fun g => hm g.2)] at this⟩)⟩) (fun ht S1 o hS1 => ⟨fun _ => by have := hk S1 o; rwa [cif_neg (fun g => ht g.1)] at this, fun z => absurd rfl z⟩)
  rw [cif_pos ⟨ht, hm⟩] at hk
  have P2 := (P.off o).off o2
  have oM := (P.2.2.2.2.2.2.2.1 m hm.1 hm.2).1
  refine R_lookedUp P2.1 hS2 P.2.2.1 P.2.2.2.1.1 ht oM (fun S3 o3 => ?_)
  have hk := hk S3 (o3.g (o.trans o2))
  refine ⟨fun g => ?_, fun g => by rwa [if_pos g] at hk⟩
  rw [if_neg (by omega)] at hk
  exact R_toldAs (o3.ag P2.1) (o3.hf hS2) P.2.2.1 (fnd_ok P.2.2.2.1 ht g) hk
theorem spN_ok {t q : Int} {i : Nat} (O : okA D h) (ht : inT D h t) (hi : i < (spN D h (gfL D h t q) (gfL D h t q).length).length) : okY D h ((spN D h (gfL D h t q) (gfL D h t q).length).getD i 0) := by
  have hx := spN_sub D h _ _ (Nat.le_refl _) _ (getD_mem hi)
  obtain ⟨x, ex⟩ : ∃ x, x = (spN D h (gfL D h t q) (gfL D h t q).length).getD i 0 := ⟨_, rfl⟩
  rw [← ex] at hx ⊢
  unfold gfL at hx
  split at hx
  · rename_i c
    rw [List.mem_singleton.mp hx]
    exact mI_okY O ht c.2
  · obtain ⟨u, h1, h2, h3, _⟩ := caL_mem O.1 ht _ hx
    rw [h2] at h3 ⊢
    exact mI_okY O h1 h3
noncomputable def speA (D : St) (h t m i : Int) : Int := cif (inT D h t ∧ inM D h m) (if spA D h (gfL D h t m) i = -1 then -13 else tol D h (spA D h (gfL D h t m) i)) (-11)
theorem C_specific {t m i : Int} {k : Int → St → Prop} (P : PC S E b D h) (hk : ∀ S', offC' S S' → k (speA D h t m i) S') : wX7_specific S t m i k := by
  unfold wX7_specific wX7_specific_0
  unfold speA at hk
  have rf : offC' S S := fun _ _ _ => rfl
  refine C_isT P (fun ht => ⟨fun z => absurd z (by decide), fun _ => C_isM P (fun hm => ⟨fun _ y ey => C_open P ey (fun T oT Q w ew => ?_), fun z => absurd z (by decide)⟩) (fun hm => ⟨fun z => absurd rfl z, fun _ => by have := hk S rf; rwa [cif_neg (fun g => hm g.2)] at this⟩)⟩) (fun ht => ⟨fun _ => by have := hk S rf; rwa [cif_neg (fun g => ht g.1)] at this, fun z => absurd rfl z⟩)
  rw [cif_pos ⟨ht, hm⟩] at hk
  have PT := P.off oT
  rw [PT.2.1] at ew
  refine ⟨by rw [ew]; exact isO_b P.2.2.1, ⟨hm.1, by have := hm.2; have := P.m120; omega⟩, fun x ex => ?_⟩
  have ex : x = me b m := by rw [ex, ew]; rfl
  rw [ex, Q.sig hm]
  refine C_specificAt Q ht hm (fun S1 o1 => ?_)
  have oC := o1.c oT
  have hk := hk S1 oC
  refine ⟨fun g => ?_, fun g => by rwa [if_pos g] at hk⟩
  rw [if_neg g] at hk
  refine C_tell (P.off oC) (Or.inr ?_) hk
  unfold spA at g ⊢
  split at g
  · rename_i c
    rw [if_pos c]
    exact spN_ok P.2.2.2.2.2 ht (by omega)
  · exact absurd rfl g
theorem R_specific {t m i : Int} {k : Int → St → Prop} (P : PR S D h) (hk : ∀ S', offG S S' → k (speA D h t m i) S') : wX8_specific S t m i k := by
  unfold wX8_specific wX8_specific_0
  unfold speA at hk
  have hb01 : 0 ≤ h ∧ h ≤ 1 := by have := P.2.2.1; unfold half01 at this; omega
  refine R_isT P (fun ht S1 o hS1 => ⟨fun z => absurd z (by decide), fun _ => R_isM (P.off o) (fun hm S2 o2 hS2 => ⟨fun _ => ?_, fun z => absurd z (by decide)⟩) (fun hm S2 o2 hS2 => ⟨fun z => absurd rfl z, fun _ => by have := hk S2 (o.trans o2); rwa [cif_neg (fun g => hm g.2)] at this⟩)⟩) (fun ht S1 o hS1 => ⟨fun _ => by have := hk S1 o; rwa [cif_neg (fun g => ht g.1)] at this, fun z => absurd rfl z⟩)
  rw [cif_pos ⟨ht, hm⟩] at hk
  have O := P.2.2.2
  have P2 := (P.off o).off o2
  have oG := o.trans o2
  have c24 := P.c24 ht
  have oM := (O.2.2.2.2.1 m hm.1 hm.2).1
  have hTU := O.1.1.2 t ht.1 ht.2
  have non : ¬ (D 11 (24 * h + t) = 2 ∧ 0 ≤ mI D h t m) → wX8_findSpecific S2 t m (fun S_2 => wX8_in S_2 i 0 (w32 ((S_2 0 52) - 1)) (fun x_7 => (x_7 = 0 → k (-13) S_2) ∧ (¬ x_7 = 0 → (0 ≤ i ∧ i < 24) ∧ (wX8_toldAs S_2 (S_2 38 i) (fun x_12 => k x_12 S_2))))) := by
    intro g
    have eL : gfL D h t m = caL D h t m := by unfold gfL; rw [if_neg g]
    refine R_findSpecific P2.1 hS2 P.2.2.1 O.1.1 ht oM (fun S3 o3 f => ?_)
    have hk := hk S3 (o3.g oG)
    obtain ⟨f1, f2, f3, f4⟩ := f
    rw [← eL] at f1 f2 f3 f4
    have hle := spN_len D h (gfL D h t m) (gfL D h t m).length
    have hle2 : (gfL D h t m).length ≤ 23 := by
      have h1 := caN_len D h t m (D 20 (24 * h + t)).toNat
      have h2 := hTU.2.2.1
      rw [eL]
      unfold caL
      omega
    rw [f4, w32_eq (by omega) (by omega)]
    refine R_in _ ?_
    unfold spA at hk
    by_cases c : 0 ≤ i ∧ i < (spN D h (gfL D h t m) (gfL D h t m).length).length
    · rw [if_pos c] at hk
      rw [if_pos (by omega)]
      have oY := spN_ok (q := m) (i := i.toNat) O ht (by omega)
      have y0 := okY_0 oY
      rw [if_neg (by omega)] at hk
      refine ⟨fun z => absurd z (by decide), fun _ => ⟨by omega, ?_⟩⟩
      have e1 := f3 i.toNat (by omega)
      rw [show (i.toNat : Int) = i by omega] at e1
      rw [e1]
      exact R_toldAs (o3.ag P2.1) (o3.hf hS2) P.2.2.1 oY.1 hk
    · rw [if_neg c, if_pos rfl] at hk
      rw [if_neg (by omega)]
      exact ⟨fun _ => hk, fun z => absurd rfl z⟩
  refine R_t hS2 P.2.2.1 c24 ?_
  rw [P2.1 11 _ (by decide) (by decide)]
  unfold wX8_specific_43
  refine ⟨by omega, fun f => ⟨fun _ => non (fun g => f g.1), fun z => absurd z (by decide)⟩, fun f => R_mI P2.1 hS2 P.2.2.1 hTU.1 oM ⟨fun g => non (fun z => by omega), fun g => ?_⟩⟩
  have hk := hk S2 oG
  have eL : gfL D h t m = [mI D h t m] := by unfold gfL; rw [if_pos ⟨f, g⟩]
  have eS : spN D h [mI D h t m] [mI D h t m].length = [mI D h t m] := by
    show spN D h [mI D h t m] (0 + 1) = _
    have i0 : isSp D h [mI D h t m] 0 := by
      intro j hj hne
      simp at hj
      exact absurd hj hne
    rw [spN, sp1_pos i0, spN]
    rfl
  rw [eL] at hk
  have eA : spA D h [mI D h t m] i = if i = 0 then mI D h t m else -1 := by
    unfold spA
    rw [eS]
    by_cases c : i = 0
    · subst c
      rw [if_pos rfl, if_pos ⟨by decide, by simp⟩]
      rfl
    · rw [if_neg c, if_neg]
      rintro ⟨a, b⟩
      have : ([mI D h t m].length : Int) = 1 := rfl
      omega
  rw [eA] at hk
  refine ⟨fun c => ?_, fun c => ?_⟩
  · rw [if_neg c, if_pos rfl] at hk
    exact hk
  · rw [if_pos c, if_neg (by omega)] at hk
    exact R_toldAs P2.1 hS2 P.2.2.1 (mI_okX hTU.1 hTU.2 g) hk
noncomputable def mayA (D : St) (h c n m r : Int) : Int := cif (inT D h c ∧ inT D h n ∧ inM D h m ∧ inT D h r) (if fnd D h n m < 0 then -1 else cif (may D h c n (fnd D h n m) r) 1 0) (-11)
theorem C_may {c n m r : Int} {k : Int → St → Prop} (P : PC S E b D h) (hk : ∀ S', offC' S S' → k (mayA D h c n m r) S') : wX7_may S c n m r k := by
  unfold wX7_may wX7_may_0
  unfold mayA at hk
  have rf : offC' S S := fun _ _ _ => rfl
  refine C_isT P (fun hc => ⟨fun z => absurd z (by decide), fun _ => C_isT P (fun hn => ⟨fun z => absurd z (by decide), fun _ => C_isM P (fun hm => ⟨fun z => absurd z (by decide), fun _ => C_isT P (fun hr => ⟨fun _ y ey => C_open P ey (fun T oT Q w ew => ?_), fun z => absurd z (by decide)⟩) (fun hr => ⟨fun z => absurd rfl z, fun _ => by have := hk S rf; rwa [cif_neg (fun g => hr g.2.2.2)] at this⟩)⟩) (fun hm => ⟨fun _ => by have := hk S rf; rwa [cif_neg (fun g => hm g.2.2.1)] at this, fun z => absurd rfl z⟩)⟩) (fun hn => ⟨fun _ => by have := hk S rf; rwa [cif_neg (fun g => hn g.2.1)] at this, fun z => absurd rfl z⟩)⟩) (fun hc => ⟨fun _ => by have := hk S rf; rwa [cif_neg (fun g => hc g.1)] at this, fun z => absurd rfl z⟩)
  rw [cif_pos ⟨hc, hn, hm, hr⟩] at hk
  have PT := P.off oT
  rw [PT.2.1] at ew
  refine ⟨by rw [ew]; exact isO_b P.2.2.1, ⟨hm.1, by have := hm.2; have := P.m120; omega⟩, fun x ex => ?_⟩
  have ex : x = me b m := by rw [ex, ew]; rfl
  rw [ex, Q.sig hm]
  refine C_find Q hn hm (fun S1 o1 => ?_)
  have hk := hk S1 (o1.c oT)
  by_cases g : 0 ≤ fnd D h n m
  · rw [if_neg (by omega)] at hk
    unfold wX7_yes wX7_yes_0
    refine ⟨fun _ => C_isGranted (Q.off o1) hc hn hr (fnd_okY P.2.2.2.2.2 hn g) (fun w => ?_) (fun w => ?_), fun z => by omega⟩
    · rw [cif_pos w] at hk
      exact ⟨fun z => absurd z (by decide), fun _ => hk⟩
    · rw [cif_neg w] at hk
      exact ⟨fun _ => hk, fun z => absurd rfl z⟩
  · rw [if_pos (by omega)] at hk
    exact ⟨fun z => absurd (fnd_m1 P.2.2.2.2.2 hn g) z, fun _ => hk⟩
theorem R_may {c n m r : Int} {k : Int → St → Prop} (P : PR S D h) (hk : ∀ S', offG S S' → k (mayA D h c n m r) S') : wX8_may S c n m r k := by
  unfold wX8_may wX8_may_0
  unfold mayA at hk
  refine R_isT P (fun hc S1 o1 h1 => ⟨fun z => absurd z (by decide), fun _ => R_isT (P.off o1) (fun hn S2 o2 h2 => ⟨fun z => absurd z (by decide), fun _ => R_isM ((P.off o1).off o2) (fun hm S3 o3 h3 => ⟨fun z => absurd z (by decide), fun _ => R_isT (((P.off o1).off o2).off o3) (fun hr S4 o4 h4 => ⟨fun _ => ?_, fun z => absurd z (by decide)⟩) (fun hr S4 o4 h4 => ⟨fun z => absurd rfl z, fun _ => by have := hk S4 (((o1.trans o2).trans o3).trans o4); rwa [cif_neg (fun g => hr g.2.2.2)] at this⟩)⟩) (fun hm S3 o3 h3 => ⟨fun _ => by have := hk S3 ((o1.trans o2).trans o3); rwa [cif_neg (fun g => hm g.2.2.1)] at this, fun z => absurd rfl z⟩)⟩) (fun hn S2 o2 h2 => ⟨fun _ => by have := hk S2 (o1.trans o2); rwa [cif_neg (fun g => hn g.2.1)] at this, fun z => absurd rfl z⟩)⟩) (fun hc S1 o1 h1 => ⟨fun _ => by have := hk S1 o1; rwa [cif_neg (fun g => hc g.1)] at this, fun z => absurd rfl z⟩)
  rw [cif_pos ⟨hc, hn, hm, hr⟩] at hk
  have oG := ((o1.trans o2).trans o3).trans o4
  have P4 := P.off oG
  have O := P.2.2.2
  have oM := (O.2.2.2.2.1 m hm.1 hm.2).1
  refine R_lookedUp P4.1 h4 P.2.2.1 O.1.1 hn oM (fun S5 o5 => ?_)
  have hk := hk S5 (o5.g oG)
  refine ⟨fun g => ?_, fun g => by rwa [if_pos g] at hk⟩
  rw [if_neg (by omega)] at hk
  refine R_mayHave (o5.ag P4.1) (o5.hf h4) P.2.2.1 (P.c24 hc) (P.c24 hn) (P.c24 hr) (fnd_ok O.1 hn g) (fun w => ?_) (fun w => ?_)
  · rw [cif_pos w] at hk
    exact ⟨fun z => absurd z (by decide), fun _ => hk⟩
  · rw [cif_neg w] at hk
    exact ⟨fun _ => hk, fun z => absurd rfl z⟩
/-- rule: refused (the answer), or not -/
def ruK (D : St) (h s c n m r : Int) : Prop := inT D h c ∧ inT D h n ∧ inM D h m ∧ (¬ s = 3 → inT D h r)
noncomputable def ruN (D : St) (h s c n m r : Int) : Int := cif (ruK D h s c n m r) (-12) (-11)
def offC3 (S S' : St) : Prop := ∀ a j, a < 1037 → ¬ (a = 0 ∧ j = 3) → S' a j = S a j
def offG9 (S S' : St) : Prop := ∀ a j, a < 37 ∨ 40 < a → ¬ (a = 0 ∧ (j = 10 ∨ (50 ≤ j ∧ j ≤ 59))) → S' a j = S a j
theorem C_rule {s c n m r : Int} {k : Int → St → Prop} (P : PC S E b D h) (h0 : ¬ (ruK D h s c n m r ∧ 0 ≤ s ∧ s ≤ 3) → k (ruN D h s c n m r) S) (h1 : ruK D h s c n m r ∧ 0 ≤ s ∧ s ≤ 3 → ∀ S', offC3 S S' → S' 0 3 = (rul D h s c n m r).2 → k (rul D h s c n m r).1 S') : wX7_rule S s c n m r k := by
  unfold wX7_rule wX7_rule_0
  have neg : ¬ ruK D h s c n m r → k (-11) S := by
    intro g
    have := h0 (fun z => g z.1)
    unfold ruN at this
    rwa [cif_neg g] at this
  have fin : ruK D h s c n m r → wX7_rule_42 S s c n m r k := by
    intro g
    unfold wX7_rule_42
    have twelve : ¬ (0 ≤ s ∧ s ≤ 3) → k (-12) S := by
      intro z
      have := h0 (fun w => z w.2)
      unfold ruN at this
      rwa [cif_pos g] at this
    refine ⟨fun z => twelve (by omega), fun z => ⟨fun z2 y ey => C_open P ey (fun T oT Q => ?_), fun z2 => twelve (by omega)⟩⟩
    refine C_judge Q ⟨z, z2⟩ g.1 g.2.1 g.2.2.1 g.2.2.2 (fun S1 o1 e1 S2 e2 => ?_)
    have oC := o1.c oT
    refine h1 ⟨g, z, z2⟩ S2 (fun a j x y => ?_) ?_
    · rw [e2, up_n _ (by omega)]; exact oC a j x
    · rw [e2, up_s]; exact e1
  refine C_isT P (fun hc => ⟨fun z => absurd z (by decide), fun _ => C_isT P (fun hn => ⟨fun z => absurd z (by decide), fun _ => C_isM P (fun hm => ⟨fun z => absurd z (by decide), fun _ => ⟨fun s3 => fin ⟨hc, hn, hm, fun z => absurd s3 z⟩, fun s3 => C_isT P (fun hr => ⟨fun _ => fin ⟨hc, hn, hm, fun _ => hr⟩, fun z => absurd z (by decide)⟩) (fun hr => ⟨fun z => absurd rfl z, fun _ => neg (fun g => hr (g.2.2.2 s3))⟩)⟩⟩) (fun hm => ⟨fun _ => neg (fun g => hm g.2.2.1), fun z => absurd rfl z⟩)⟩) (fun hn => ⟨fun _ => neg (fun g => hn g.2.1), fun z => absurd rfl z⟩)⟩) (fun hc => ⟨fun _ => neg (fun g => hc g.1), fun z => absurd rfl z⟩)
theorem R_rule {s c n m r : Int} {k : Int → St → Prop} (P : PR S D h) (h0 : ¬ (ruK D h s c n m r ∧ 0 ≤ s ∧ s ≤ 3) → ∀ S', offG S S' → k (ruN D h s c n m r) S') (h1 : ruK D h s c n m r ∧ 0 ≤ s ∧ s ≤ 3 → ∀ S', offG9 S S' → S' 0 59 = (rul D h s c n m r).2 → k (rul D h s c n m r).1 S') : wX8_rule S s c n m r k := by
  unfold wX8_rule wX8_rule_0
  have O := P.2.2.2
  have neg : ¬ ruK D h s c n m r → ∀ S', offG S S' → k (-11) S' := by
    intro g S' o
    have := h0 (fun z => g z.1) S' o
    unfold ruN at this
    rwa [cif_neg g] at this
  have fin : ruK D h s c n m r → ∀ S', offG S S' → S' 0 10 = h → wX8_rule_42 S' s c n m r k := by
    intro g S1 o1 hS1
    have P1 := P.off o1
    unfold wX8_rule_42
    refine R_in _ ?_
    by_cases z : 0 ≤ s ∧ s ≤ 3
    · rw [if_pos z]
      refine ⟨fun _ => R_ruled P1.1 hS1 P.2.2.1 O.1 z g.1 g.2.1 (O.2.2.2.2.1 m g.2.2.1.1 g.2.2.1.2).1 g.2.2.2 (fun S2 o2 e2 S3 e3 => ?_), fun z => absurd z (by decide)⟩
      have oG := o2.g o1
      refine h1 ⟨g, z⟩ S3 (fun a j x y => ?_) ?_
      · rw [e3, up_n _ (by omega)]; exact oG a j x (by omega)
      · rw [e3, up_s]; exact e2
    · rw [if_neg z]
      refine ⟨fun z => absurd rfl z, fun _ => ?_⟩
      have := h0 (fun w => z w.2) S1 o1
      unfold ruN at this
      rwa [cif_pos g] at this
  refine R_isT P (fun hc S1 o1 h1 => ⟨fun z => absurd z (by decide), fun _ => R_isT (P.off o1) (fun hn S2 o2 h2 => ⟨fun z => absurd z (by decide), fun _ => R_isM ((P.off o1).off o2) (fun hm S3 o3 h3 => ⟨fun z => absurd z (by decide), fun _ => ⟨fun s3 => fin ⟨hc, hn, hm, fun z => absurd s3 z⟩ S3 ((o1.trans o2).trans o3) h3, fun s3 => R_isT (((P.off o1).off o2).off o3) (fun hr S4 o4 h4 => ⟨fun _ => fin ⟨hc, hn, hm, fun _ => hr⟩ S4 (((o1.trans o2).trans o3).trans o4) h4, fun z => absurd z (by decide)⟩) (fun hr S4 o4 h4 => ⟨fun z => absurd rfl z, fun _ => neg (fun g => hr (g.2.2.2 s3)) S4 (((o1.trans o2).trans o3).trans o4)⟩)⟩⟩) (fun hm S3 o3 h3 => ⟨fun _ => neg (fun g => hm g.2.2.1) S3 ((o1.trans o2).trans o3), fun z => absurd rfl z⟩)⟩) (fun hn S2 o2 h2 => ⟨fun _ => neg (fun g => hn g.2.1) S2 (o1.trans o2), fun z => absurd rfl z⟩)⟩) (fun hc S1 o1 h1 => ⟨fun _ => neg (fun g => hc g.1) S1 o1, fun z => absurd rfl z⟩)
noncomputable def conA (D : St) (h t : Int) : Int := cif (inT D h t) (if D 11 (24 * h + t) = 0 then outN D h t (-3) 1 (D 4 h).toNat else -13) (-11)
theorem C_conflicts {t : Int} {k : Int → St → Prop} (P : PC S E b D h) (hk : ∀ S', offC' S S' → k (conA D h t) S') : wX7_conflicts S t k := by
  unfold wX7_conflicts wX7_conflicts_0
  unfold conA at hk
  have rf : offC' S S := fun _ _ _ => rfl
  refine C_isT P (fun ht => ⟨fun _ y ey => ?_, fun z => absurd z (by decide)⟩) (fun ht => ⟨fun z => absurd rfl z, fun _ => by have := hk S rf; rwa [cif_neg ht] at this⟩)
  rw [cif_pos ht] at hk
  have c24 := P.c24 ht
  rw [P.2.1] at ey
  refine ⟨by rw [ey]; exact isO_b P.2.2.1, c24, fun x ex => ?_⟩
  have ex : x = ty b t := by rw [ex, ey]; rfl
  rw [ex, P.t ht, (P.rt ht).1.2.2.2.2.1]
  refine ⟨fun f w ew => C_open P ew (fun T oT Q => C_count Q ht (by decide) (fun S1 o1 => ?_)), fun f => by have := hk S rf; rwa [if_neg f] at this⟩
  have := hk S1 (o1.c oT)
  rwa [if_pos f] at this
theorem R_conflicts {t : Int} {k : Int → St → Prop} (P : PR S D h) (hk : ∀ S', offG S S' → k (conA D h t) S') : wX8_conflicts S t k := by
  unfold wX8_conflicts wX8_conflicts_0
  unfold conA at hk
  have O := P.2.2.2
  have hb01 : 0 ≤ h ∧ h ≤ 1 := by have := P.2.2.1; unfold half01 at this; omega
  refine R_isT P (fun ht S1 o1 h1 => ⟨fun _ => R_t h1 P.2.2.1 (P.c24 ht) ?_, fun z => absurd z (by decide)⟩) (fun ht S1 o1 h1 => ⟨fun z => absurd rfl z, fun _ => by have := hk S1 o1; rwa [cif_neg ht] at this⟩)
  rw [cif_pos ht] at hk
  have c24 := P.c24 ht
  have P1 := P.off o1
  rw [P1.1 11 _ (by decide) (by decide)]
  refine ⟨by omega, fun f => R_outcomes P1.1 h1 P.2.2.1 O ht (fun S2 o2 => ?_), fun f => by have := hk S1 o1; rwa [if_neg f] at this⟩
  have := hk S2 (o2.g o1)
  rw [if_pos f, ← outN_st O _ (by have := O.2.2.1.1; omega)] at this
  exact this
noncomputable def talA (D : St) (h t oc : Int) : Int := cif (inT D h t) (if oc < -7 ∨ 0 < oc then -12 else if D 11 (24 * h + t) = 0 then outN D h t oc 1 (D 4 h).toNat else -13) (-11)
theorem C_tally {t oc : Int} {k : Int → St → Prop} (P : PC S E b D h) (hk : ∀ S', offC' S S' → k (talA D h t oc) S') : wX7_tally S t oc k := by
  unfold wX7_tally wX7_tally_0
  unfold talA at hk
  have rf : offC' S S := fun _ _ _ => rfl
  refine C_isT P (fun ht => ⟨fun _ => ?_, fun z => absurd z (by decide)⟩) (fun ht => ⟨fun z => absurd rfl z, fun _ => by have := hk S rf; rwa [cif_neg ht] at this⟩)
  rw [cif_pos ht] at hk
  refine ⟨fun c => by have := hk S rf; rwa [if_pos (Or.inl c)] at this, fun c => ⟨fun c2 y ey => ?_, fun c2 => by have := hk S rf; rwa [if_pos (Or.inr c2)] at this⟩⟩
  rw [if_neg (by omega)] at hk
  have c24 := P.c24 ht
  rw [P.2.1] at ey
  refine ⟨by rw [ey]; exact isO_b P.2.2.1, c24, fun x ex => ?_⟩
  have ex : x = ty b t := by rw [ex, ey]; rfl
  rw [ex, P.t ht, (P.rt ht).1.2.2.2.2.1]
  refine ⟨fun f w ew => C_open P ew (fun T oT Q => C_count Q ht c2 (fun S1 o1 => ?_)), fun f => by have := hk S rf; rwa [if_neg f] at this⟩
  have := hk S1 (o1.c oT)
  rwa [if_pos f] at this
theorem R_tally {t oc : Int} {k : Int → St → Prop} (P : PR S D h) (hk : ∀ S', offG S S' → k (talA D h t oc) S') : wX8_tally S t oc k := by
  unfold wX8_tally wX8_tally_0
  unfold talA at hk
  have O := P.2.2.2
  have hb01 : 0 ≤ h ∧ h ≤ 1 := by have := P.2.2.1; unfold half01 at this; omega
  refine R_isT P (fun ht S1 o1 h1 => ⟨fun _ => R_in _ ?_, fun z => absurd z (by decide)⟩) (fun ht S1 o1 h1 => ⟨fun z => absurd rfl z, fun _ => by have := hk S1 o1; rwa [cif_neg ht] at this⟩)
  rw [cif_pos ht] at hk
  by_cases c : -7 ≤ oc ∧ oc ≤ 0
  · rw [if_pos c]
    rw [if_neg (by omega)] at hk
    refine ⟨fun _ => R_t h1 P.2.2.1 (P.c24 ht) ?_, fun z => absurd z (by decide)⟩
    have c24 := P.c24 ht
    have P1 := P.off o1
    rw [P1.1 11 _ (by decide) (by decide)]
    refine ⟨by omega, fun f => R_outcomes P1.1 h1 P.2.2.1 O ht (fun S2 o2 => ?_), fun f => by have := hk S1 o1; rwa [if_neg f] at this⟩
    have := hk S2 (o2.g o1)
    rwa [if_pos f] at this
  · rw [if_neg c]
    rw [if_pos (by omega)] at hk
    exact ⟨fun z => absurd rfl z, fun _ => hk S1 o1⟩
end Judging
/-- the reference's words -/
def wv : List Int := [0x7061636b, 0x6c6f61646572, 0x636c617373, 0x66616365, 0x6f66, 0x756e646572, 0x6f70656e, 0x6e656172, 0x6f776e, 0x737461746963, 0x6162737472616374, 0x6c656e74, 0x696e74, 0x6e6f6e65]
def wds (S : St) : Prop := ∀ i : Nat, i < 14 → S 2 i = wv.getD i 0
/-- the tape's bytes -/
def byR (S : St) : Prop := ∀ j, 0 ≤ j → j < S 0 1 → -128 ≤ S 1 j ∧ S 1 j < 128
def nums (S : St) : Prop := ∀ t, 0 ≤ t → t < 24 → S (ty 2 t) 0 = t ∧ S (ty 515 t) 0 = t
/-- kinds are bounded, VARS are few -/
def exD (D : St) (h : Int) : Prop := (∀ j, D 33 j ≤ 101) ∧ ∀ u, 0 ≤ u → u < D 3 h → 0 ≤ D 13 (24 * h + u) ∧ D 13 (24 * h + u) ≤ 2
/-- the stores of class and reference stand alike -/
def Sim (SC SR : St) : Prop := ∃ (E D : St) (b h : Int), SimT SC SR ∧ SC 0 2 = SR 0 2 ∧ SC 0 3 = SR 0 59 ∧ PC SC E b D h ∧ PR SR D h ∧ okK D h ∧ ((b = 2 ∧ SC 0 5 = 515) ∨ (b = 515 ∧ SC 0 5 = 2)) ∧ nums SC ∧ wds SR ∧ byR SR ∧ exD D h
theorem SimT.off {SC SR SC' SR' : St} (h : SimT SC SR) (c : offC3 SC SC') (g : offG9 SR SR') : SimT SC' SR' := by
  obtain ⟨s1, s2, s3⟩ := h
  have e1 : SR' 0 1 = SR 0 1 := g 0 1 (by omega) (by omega)
  refine ⟨(c 0 1 (by omega) (by omega)).trans (s1.trans e1.symm), by rw [e1]; exact s2, fun j j0 j1 => ?_⟩
  rw [e1] at j1
  rw [c 1 j (by omega) (by omega), g 1 j (by omega) (by omega)]
  exact s3 j j0 j1
theorem Sim.off {SC SR SC' SR' : St} (h : Sim SC SR) (c : offC3 SC SC') (g : offG9 SR SR') (e : SC' 0 3 = SR' 0 59) : Sim SC' SR' := by
  obtain ⟨E, D, b, hf, s1, s2, s3, P, R, K, s4, s5, s6⟩ := h
  have hb := P.2.2.1
  refine ⟨E, D, b, hf, s1.off c g, ?_, e, ⟨fun a j x y => (c a j (by omega) (by omega)).trans (P.1 a j x y), (c 0 4 (by omega) (by omega)).trans P.2.1, P.2.2⟩, ⟨fun a j x y => (g a j (by omega) (by omega)).trans (R.1 a j x y), (g 0 11 (by omega) (by omega)).trans R.2.1, R.2.2⟩, K, ?_, ?_, ?_⟩
  · rw [c 0 2 (by omega) (by omega), g 0 2 (by omega) (by omega)]; exact s2
  · rw [c 0 5 (by omega) (by omega)]; exact s4
  · intro t t0 t1
    rw [c _ _ (by unfold ty; omega) (by unfold ty; omega), c _ _ (by unfold ty; omega) (by unfold ty; omega)]
    exact s5 t t0 t1
  · refine ⟨fun i hi => ?_, fun j j0 j1 => ?_, s6.2.2⟩
    · rw [g 2 i (by omega) (by omega)]
      exact s6.1 i hi
    · rw [g 0 1 (by omega) (by omega)] at j1
      rw [g 1 j (by omega) (by omega)]
      exact s6.2.1 j j0 j1
theorem Sim.g {SC SR SC' SR' : St} (h : Sim SC SR) (c : offC' SC SC') (g : offG SR SR') : Sim SC' SR' := by
  have e3 : SC 0 3 = SR 0 59 := by obtain ⟨E, D, b, hf, s1, s2, s3, _⟩ := h; exact s3
  exact h.off (fun a j x _ => c a j x) (fun a j x y => g a j x (by omega)) (by rw [c 0 3 (by omega), g 0 59 (by omega) (by omega)]; exact e3)
theorem Sim.r {SC SR SR' : St} (h : Sim SC SR) (g : offG SR SR') : Sim SC SR' := h.g (fun _ _ _ => rfl) g
section Joint
variable {SC SR : St}
theorem J_fault (h : Sim SC SR) : wX7_fault SC (fun r => wX8_fault SR (fun r' => r = r' ∧ Sim SC SR)) := by
  have := h
  obtain ⟨E, D, b, hf, s1, s2, s3, P, R, K, s4, s5, s6⟩ := this
  exact ⟨s2, h⟩
theorem J_hops (h : Sim SC SR) : wX7_hops SC (fun r => wX8_hops SR (fun r' => r = r' ∧ Sim SC SR)) := by
  have := h
  obtain ⟨E, D, b, hf, s1, s2, s3, P, R, K, s4, s5, s6⟩ := this
  exact ⟨s3, h⟩
theorem J_type (h : Sim SC SR) (t w : Int) : wX7_type SC t w (fun r => wX8_type SR t w (fun r' SR' => r = r' ∧ Sim SC SR')) := by
  have := h
  obtain ⟨E, D, b, hf, s1, s2, s3, P, R, K, s4, s5, s6⟩ := this
  exact C_type P (R_type R (fun S' o => ⟨rfl, h.r o⟩))
theorem J_above (h : Sim SC SR) (t i : Int) : wX7_above SC t i (fun r => wX8_above SR t i (fun r' SR' => r = r' ∧ Sim SC SR')) := by
  have := h
  obtain ⟨E, D, b, hf, s1, s2, s3, P, R, K, s4, s5, s6⟩ := this
  exact C_above P (R_above R (fun S' o => ⟨rfl, h.r o⟩))
theorem J_under (h : Sim SC SR) (t u : Int) : wX7_under SC t u (fun r => wX8_under SR t u (fun r' SR' => r = r' ∧ Sim SC SR')) := by
  have := h
  obtain ⟨E, D, b, hf, s1, s2, s3, P, R, K, s4, s5, s6⟩ := this
  exact C_under P (R_under R (fun S' o => ⟨rfl, h.r o⟩))
theorem J_member (h : Sim SC SR) (m w : Int) : wX7_member SC m w (fun r => wX8_member SR m w (fun r' SR' => r = r' ∧ Sim SC SR')) := by
  have := h
  obtain ⟨E, D, b, hf, s1, s2, s3, P, R, K, s4, s5, s6⟩ := this
  exact C_member P (R_member R (fun S' o => ⟨rfl, h.r o⟩))
theorem J_seen (h : Sim SC SR) (t m q : Int) : wX7_seen SC t m q (fun r => wX8_seen SR t m q (fun r' SR' => r = r' ∧ Sim SC SR')) := by
  have := h
  obtain ⟨E, D, b, hf, s1, s2, s3, P, R, K, s4, s5, s6⟩ := this
  exact C_seen P K (R_seen R (fun S' o => ⟨rfl, h.r o⟩))
theorem J_erased (h : Sim SC SR) (m q : Int) : wX7_erased SC m q (fun r => wX8_erased SR m q (fun r' SR' => r = r' ∧ Sim SC SR')) := by
  have := h
  obtain ⟨E, D, b, hf, s1, s2, s3, P, R, K, s4, s5, s6⟩ := this
  exact C_erased P K (R_erased R (fun S' o => ⟨rfl, h.r o⟩))
theorem J_overrides (h : Sim SC SR) (m n : Int) : wX7_overrides SC m n (fun r => wX8_overrides SR m n (fun r' SR' => r = r' ∧ Sim SC SR')) := by
  have := h
  obtain ⟨E, D, b, hf, s1, s2, s3, P, R, K, s4, s5, s6⟩ := this
  exact C_overrides P (R_overrides R K (fun S' o => ⟨rfl, h.r o⟩))
theorem J_bridge (h : Sim SC SR) (t i w : Int) : wX7_bridge SC t i w (fun r => wX8_bridge SR t i w (fun r' SR' => r = r' ∧ Sim SC SR')) := by
  have := h
  obtain ⟨E, D, b, hf, s1, s2, s3, P, R, K, s4, s5, s6⟩ := this
  exact C_bridge P K (R_bridge R (fun S' o => ⟨rfl, h.r o⟩))
theorem J_same (h : Sim SC SR) (t u ne : Int) : wX7_same SC t u ne (fun r => wX8_same SR t u ne (fun r' SR' => r = r' ∧ Sim SC SR')) := by
  have := h
  obtain ⟨E, D, b, hf, s1, s2, s3, P, R, K, s4, s5, s6⟩ := this
  exact C_same P (R_same R (fun S' o => ⟨rfl, h.r o⟩))
theorem J_lookup (h : Sim SC SR) (t m : Int) : wX7_lookup SC t m (fun r SC' => wX8_lookup SR t m (fun r' SR' => r = r' ∧ Sim SC' SR')) := by
  have := h
  obtain ⟨E, D, b, hf, s1, s2, s3, P, R, K, s4, s5, s6⟩ := this
  exact C_lookup P (fun SC' oc => R_lookup R (fun S' o => ⟨rfl, h.g oc o⟩))
theorem J_specific (h : Sim SC SR) (t m i : Int) : wX7_specific SC t m i (fun r SC' => wX8_specific SR t m i (fun r' SR' => r = r' ∧ Sim SC' SR')) := by
  have := h
  obtain ⟨E, D, b, hf, s1, s2, s3, P, R, K, s4, s5, s6⟩ := this
  exact C_specific P (fun SC' oc => R_specific R (fun S' o => ⟨rfl, h.g oc o⟩))
theorem J_may (h : Sim SC SR) (c n m r : Int) : wX7_may SC c n m r (fun a SC' => wX8_may SR c n m r (fun r' SR' => a = r' ∧ Sim SC' SR')) := by
  have := h
  obtain ⟨E, D, b, hf, s1, s2, s3, P, R, K, s4, s5, s6⟩ := this
  exact C_may P (fun SC' oc => R_may R (fun S' o => ⟨rfl, h.g oc o⟩))
theorem J_rule (h : Sim SC SR) (s c n m r : Int) : wX7_rule SC s c n m r (fun a SC' => wX8_rule SR s c n m r (fun r' SR' => a = r' ∧ Sim SC' SR')) := by
  have := h
  obtain ⟨E, D, b, hf, s1, s2, s3, P, R, K, s4, s5, s6⟩ := this
  refine C_rule P (fun z => R_rule R (fun _ S' o => ⟨rfl, h.r o⟩) (fun z2 => absurd z2 z)) (fun z SC' oc e => R_rule R (fun z2 => absurd z z2) (fun _ SR' o e2 => ⟨rfl, h.off oc o (e.trans e2.symm)⟩))
theorem J_conflicts (h : Sim SC SR) (t : Int) : wX7_conflicts SC t (fun r SC' => wX8_conflicts SR t (fun r' SR' => r = r' ∧ Sim SC' SR')) := by
  have := h
  obtain ⟨E, D, b, hf, s1, s2, s3, P, R, K, s4, s5, s6⟩ := this
  exact C_conflicts P (fun SC' oc => R_conflicts R (fun S' o => ⟨rfl, h.g oc o⟩))
theorem J_tally (h : Sim SC SR) (t oc : Int) : wX7_tally SC t oc (fun r SC' => wX8_tally SR t oc (fun r' SR' => r = r' ∧ Sim SC' SR')) := by
  have := h
  obtain ⟨E, D, b, hf, s1, s2, s3, P, R, K, s4, s5, s6⟩ := this
  exact C_tally P (fun SC' oc => R_tally R (fun S' o => ⟨rfl, h.g oc o⟩))
theorem J_told (h : Sim SC SR) (w : Int) : wX7_told SC w (fun r => wX8_told SR w (fun r' SR' => r = r' ∧ Sim SC SR')) := by
  have := h
  obtain ⟨E, D, b, hf, s1, s2, s3, P, R, K, s4, s5, s6⟩ := this
  have go : ∀ v : Int, (v = if w = 0 then D 3 hf else if w = 1 then D 4 hf else if w = 2 then D 5 hf else if w = 3 then D 6 hf else if w = 4 then SR 0 1 else -12) → wX8_told SR w (fun r' SR' => v = r' ∧ Sim SC SR') := by
    intro v ev
    unfold wX8_told wX8_told_0
    intro T eT
    rw [R.2.1] at eT
    have o : offG SR T := fun a j _ y => by rw [eT, up_n _ (by omega)]
    have RT := R.off o
    have hT : T 0 10 = hf := by rw [eT, up_s]
    have hb01 : 0 ≤ hf ∧ hf ≤ 1 := by have := R.2.2.1; unfold half01 at this; omega
    have sm := h.r o
    have e1 : T 0 1 = SR 0 1 := o 0 1 (by omega) (by omega)
    rw [hT, RT.1 3 _ (by decide) (by decide), RT.1 4 _ (by decide) (by decide), RT.1 5 _ (by decide) (by decide), RT.1 6 _ (by decide) (by decide), e1]
    refine ⟨fun e => ⟨by omega, ?_, sm⟩, fun e => ⟨by omega, ?_, sm⟩, fun e => ⟨by omega, ?_, sm⟩, fun e => ⟨by omega, ?_, sm⟩, fun e => ⟨?_, sm⟩, fun e => ⟨?_, sm⟩⟩
    · rw [ev, if_pos e]
    · rw [ev, if_neg (by omega), if_pos e]
    · rw [ev, if_neg (by omega), if_neg (by omega), if_pos e]
    · rw [ev, if_neg (by omega), if_neg (by omega), if_neg (by omega), if_pos e]
    · rw [ev, if_neg (by omega), if_neg (by omega), if_neg (by omega), if_neg (by omega), if_pos e]
    · rw [ev, if_neg (by omega), if_neg (by omega), if_neg (by omega), if_neg (by omega), if_neg (by omega)]
  obtain ⟨r1, r2, r3, r4⟩ := P.2.2.2.2.1.1
  have ob := isO_b P.2.2.1
  unfold wX7_told wX7_told_0
  refine ⟨fun e x ex => ?_, fun e x ex => ?_, fun e x ex => ?_, fun e x ex => ?_, fun e => go _ ?_, fun e => go _ ?_⟩
  · rw [P.2.1] at ex
    rw [ex, P.f, r1]
    exact ⟨ob, go _ (by rw [if_pos e])⟩
  · rw [P.2.1] at ex
    rw [ex, P.f, r2]
    exact ⟨ob, go _ (by rw [if_neg (by omega), if_pos e])⟩
  · rw [P.2.1] at ex
    rw [ex, P.f, r3]
    exact ⟨ob, go _ (by rw [if_neg (by omega), if_neg (by omega), if_pos e])⟩
  · rw [P.2.1] at ex
    rw [ex, P.f, r4]
    exact ⟨ob, go _ (by rw [if_neg (by omega), if_neg (by omega), if_neg (by omega), if_pos e])⟩
  · rw [if_neg (by omega), if_neg (by omega), if_neg (by omega), if_neg (by omega), if_pos e]; exact s1.1
  · rw [if_neg (by omega), if_neg (by omega), if_neg (by omega), if_neg (by omega), if_neg (by omega)]
end Joint
