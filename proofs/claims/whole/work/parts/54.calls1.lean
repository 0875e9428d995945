/-! pure: the public calls that ask: what both answer -/
noncomputable def cif (p : Prop) (a b : Int) : Int := @ite _ p (Classical.propDecidable _) a b
theorem cif_pos {p : Prop} {a b : Int} (h : p) : cif p a b = a := by unfold cif; rw [if_pos h]
theorem cif_neg {p : Prop} {a b : Int} (h : ¬ p) : cif p a b = b := by unfold cif; rw [if_neg h]
def inT (D : St) (h t : Int) : Prop := 0 ≤ t ∧ t < D 3 h
def inM (D : St) (h m : Int) : Prop := 0 ≤ m ∧ m < D 4 h
/-- the class's store, the reference's, with a court that stands -/
def PC (S E : St) (b : Int) (D : St) (h : Int) : Prop := AgC S E b ∧ S 0 4 = b ∧ (b = 2 ∨ b = 515) ∧ half01 h ∧ Rel E b D h ∧ okA D h
def PR (S D : St) (h : Int) : Prop := AgD S D ∧ S 0 11 = h ∧ half01 h ∧ okA D h
def offG (S S' : St) : Prop := ∀ a j, a < 37 ∨ 40 < a → ¬ (a = 0 ∧ (j = 10 ∨ (50 ≤ j ∧ j ≤ 58))) → S' a j = S a j
def offC (S S' : St) : Prop := ∀ a j, a < 1037 → S' a j = S a j
theorem offG.refl (S : St) : offG S S := fun _ _ _ _ => rfl
theorem offG.trans {S S1 S2 : St} (h : offG S S1) (g : offG S1 S2) : offG S S2 := fun a j x y => (g a j x y).trans (h a j x y)
theorem offR.g {S S1 S2 : St} (h : offG S S1) (g : offR S1 S2) : offG S S2 := fun a j x y => (g a j x (by omega)).trans (h a j x y)
theorem offQ.g {S S1 S2 : St} (h : offG S S1) (g : offQ S1 S2) : offG S S2 := g.r.g h
theorem PR.off {S S1 D : St} {h : Int} (P : PR S D h) (o : offG S S1) : PR S1 D h := ⟨fun a j x y => (o a j (by omega) (by omega)).trans (P.1 a j x y), (o 0 11 (by omega) (by omega)).trans P.2.1, P.2.2⟩
theorem R_isT {S D : St} {h x : Int} {k : Int → St → Prop} (P : PR S D h) (h1 : inT D h x → ∀ S', offG S S' → S' 0 10 = h → k 1 S') (h0 : ¬ inT D h x → ∀ S', offG S S' → S' 0 10 = h → k 0 S') : wX8_isType S x k := by
  obtain ⟨A, hS, hh, O⟩ := P
  have h24 := O.1.1.1
  have n0 := O.2.1
  have o : offG S (up S 0 10 h) := fun a j _ y => up_n S (by omega)
  refine R_isType hS hh (A 3 h (by decide) (by decide)) ⟨n0, h24⟩ ?_
  by_cases c : inT D h x
  · have c' : 0 ≤ x ∧ x < D 3 h := c
    rw [if_pos c']; exact h1 c _ o (up_s _ _ _ _)
  · have c' : ¬ (0 ≤ x ∧ x < D 3 h) := c
    rw [if_neg c']; exact h0 c _ o (up_s _ _ _ _)
theorem R_isM {S D : St} {h x : Int} {k : Int → St → Prop} (P : PR S D h) (h1 : inM D h x → ∀ S', offG S S' → S' 0 10 = h → k 1 S') (h0 : ¬ inM D h x → ∀ S', offG S S' → S' 0 10 = h → k 0 S') : wX8_isMember S x k := by
  obtain ⟨A, hS, hh, O⟩ := P
  have m0 := O.2.2.1
  have o : offG S (up S 0 10 h) := fun a j _ y => up_n S (by omega)
  refine R_isMember hS hh (A 4 h (by decide) (by decide)) m0 ?_
  by_cases c : inM D h x
  · have c' : 0 ≤ x ∧ x < D 4 h := c
    rw [if_pos c']; exact h1 c _ o (up_s _ _ _ _)
  · have c' : ¬ (0 ≤ x ∧ x < D 4 h) := c
    rw [if_neg c']; exact h0 c _ o (up_s _ _ _ _)
section Ask
variable {S E D : St} {b h : Int}
theorem PC.f {j : Int} (P : PC S E b D h) : S b j = E b j := P.1 _ _ (by omega) (by omega)
theorem PC.t {t j : Int} (P : PC S E b D h) (ht : inT D h t) : S (ty b t) j = E (ty b t) j := P.1 _ _ (by have := ht.1; unfold ty; omega) (by have := ht.2; have := P.2.2.2.2.2.1.1.1; unfold ty; omega)
theorem PC.m {m j : Int} (P : PC S E b D h) (hm : inM D h m) : S (me b m) j = E (me b m) j := P.1 _ _ (by have := hm.1; unfold me; omega) (by have := hm.2; have := P.2.2.2.2.2.2.2.1; unfold me; omega)
theorem PC.rt {t : Int} (P : PC S E b D h) (ht : inT D h t) : rTy E b D h t := P.2.2.2.2.1.2.1 t ht.1 ht.2
theorem PC.rm {m : Int} (P : PC S E b D h) (hm : inM D h m) : rM E b D h m := P.2.2.2.2.1.2.2.1 m hm.1 hm.2
theorem PC.n24 (P : PC S E b D h) : D 3 h ≤ 24 := P.2.2.2.2.2.1.1.1
theorem PC.m120 (P : PC S E b D h) : D 4 h ≤ 120 := P.2.2.2.2.2.2.2.1.2
theorem C_isT {x : Int} {k : Int → Prop} (P : PC S E b D h) (h1 : inT D h x → k 1) (h0 : ¬ inT D h x → k 0) : wX7_isType S x k := by
  unfold wX7_isType wX7_isType_0
  refine ⟨fun c => h0 (fun g => by have := g.1; omega), fun c y ey => ?_⟩
  rw [P.2.1] at ey
  rw [ey, P.f, P.2.2.2.2.1.1.1]
  exact ⟨isO_b P.2.2.1, fun z => h0 (fun g => by have := g.2; omega), fun z => h1 ⟨c, z⟩⟩
theorem C_isM {x : Int} {k : Int → Prop} (P : PC S E b D h) (h1 : inM D h x → k 1) (h0 : ¬ inM D h x → k 0) : wX7_isMember S x k := by
  unfold wX7_isMember wX7_isMember_0
  refine ⟨fun c => h0 (fun g => by have := g.1; omega), fun c y ey => ?_⟩
  rw [P.2.1] at ey
  rw [ey, P.f, P.2.2.2.2.1.1.2.1]
  exact ⟨isO_b P.2.2.1, fun z => h0 (fun g => by have := g.2; omega), fun z => h1 ⟨c, z⟩⟩
noncomputable def typA (D : St) (h t w : Int) : Int := cif (inT D h t) (if w = 0 then D 9 (24 * h + t) else if w = 1 then D 10 (24 * h + t) else if w = 2 then D 11 (24 * h + t) else if w = 3 then D 19 (24 * h + t) else if w = 4 then D 12 (24 * h + t) else if w = 5 then D 25 (24 * h + t) else if w = 6 then D 27 (24 * h + t) else if w = 7 then D 13 (24 * h + t) else if w = 8 then D 20 (24 * h + t) else if w = 9 then (if 0 < D 25 (24 * h + t) then D 24 (24 * h + t) else -13) else -12) (-11)
theorem C_type {t w : Int} {k : Int → Prop} (P : PC S E b D h) (hk : k (typA D h t w)) : wX7_type S t w k := by
  unfold wX7_type wX7_type_0
  unfold typA at hk
  refine C_isT P (fun ht => ⟨fun _ y ey => ?_, fun z => absurd z (by decide)⟩) (fun ht => ⟨fun z => absurd rfl z, fun _ => by rwa [cif_neg ht] at hk⟩)
  rw [cif_pos ht] at hk
  have h24 := P.n24
  obtain ⟨⟨t0, t1, t2, t3, t4, t5, t6, _⟩, ⟨_, _, r11⟩, ⟨f16, f17⟩, ⟨a12, _, _⟩, _, ⟨b18, b19⟩⟩ := P.rt ht
  have hU := (P.2.2.2.2.2.1.1.2 t ht.1 ht.2).2.1
  have hF := (P.2.2.2.2.2.1.1.2 t ht.1 ht.2).1.2.1
  rw [P.2.1] at ey
  refine ⟨by rw [ey]; exact isO_b P.2.2.1, by have := ht.1; have := ht.2; omega, fun x ex => ?_⟩
  have ex : x = ty b t := by rw [ex, ey]; rfl
  rw [ex, P.t ht, P.t ht, P.t ht, P.t ht, P.t ht, P.t ht, P.t ht, P.t ht, P.t ht, P.t ht, t2, t3, t4, t5, t6, r11, f16, f17, a12, b19]
  refine ⟨fun e => ?_, fun e => ?_, fun e => ?_, fun e => ⟨fun z => ?_, fun z => ?_⟩, fun e => ?_, fun e => ?_, fun e => ?_, fun e => ?_, fun e => ?_, fun e => ⟨fun z => ?_, fun z => ?_⟩, fun e => ?_⟩
  · rwa [if_pos e] at hk
  · rwa [if_neg (by omega), if_pos e] at hk
  · rwa [if_neg (by omega), if_neg (by omega), if_pos e] at hk
  · rw [if_neg (by omega), if_neg (by omega), if_neg (by omega), if_pos e] at hk
    split
    · rename_i e2; rw [if_pos e2] at z; exact absurd rfl z
    · exact hk
  · rw [if_neg (by omega), if_neg (by omega), if_neg (by omega), if_pos e] at hk
    split at z
    · rename_i e2; rw [e2] at hk; exact hk
    · omega
  · rwa [if_neg (by omega), if_neg (by omega), if_neg (by omega), if_neg (by omega), if_pos e] at hk
  · rwa [if_neg (by omega), if_neg (by omega), if_neg (by omega), if_neg (by omega), if_neg (by omega), if_pos e] at hk
  · rwa [if_neg (by omega), if_neg (by omega), if_neg (by omega), if_neg (by omega), if_neg (by omega), if_neg (by omega), if_pos e] at hk
  · rwa [if_neg (by omega), if_neg (by omega), if_neg (by omega), if_neg (by omega), if_neg (by omega), if_neg (by omega), if_neg (by omega), if_pos e] at hk
  · rwa [if_neg (by omega), if_neg (by omega), if_neg (by omega), if_neg (by omega), if_neg (by omega), if_neg (by omega), if_neg (by omega), if_neg (by omega), if_pos e] at hk
  · rwa [if_neg (by omega), if_neg (by omega), if_neg (by omega), if_neg (by omega), if_neg (by omega), if_neg (by omega), if_neg (by omega), if_neg (by omega), if_neg (by omega), if_pos e, if_pos (by omega)] at hk
  · rwa [if_neg (by omega), if_neg (by omega), if_neg (by omega), if_neg (by omega), if_neg (by omega), if_neg (by omega), if_neg (by omega), if_neg (by omega), if_neg (by omega), if_pos e, if_neg (by omega)] at hk
  · rwa [if_neg (by omega), if_neg (by omega), if_neg (by omega), if_neg (by omega), if_neg (by omega), if_neg (by omega), if_neg (by omega), if_neg (by omega), if_neg (by omega), if_neg (by omega)] at hk
theorem R_type {t w : Int} {k : Int → St → Prop} (P : PR S D h) (hk : ∀ S', offG S S' → k (typA D h t w) S') : wX8_type S t w k := by
  unfold wX8_type wX8_type_0
  unfold typA at hk
  have hb01 : 0 ≤ h ∧ h ≤ 1 := by have := P.2.2.1; unfold half01 at this; omega
  have h24 := P.2.2.2.1.1.1
  refine R_isT P (fun ht S1 o hS1 => ⟨fun _ => R_t hS1 P.2.2.1 (by have := ht.1; have := ht.2; omega) ?_, fun z => absurd z (by decide)⟩) (fun ht S1 o hS1 => ⟨fun z => absurd rfl z, fun _ => by have := hk S1 o; rwa [cif_neg ht] at this⟩)
  have hk := hk S1 o
  have A := (P.off o).1
  rw [cif_pos ht] at hk
  have ht1 := ht.1
  have ht2 := ht.2
  rw [A 9 _ (by decide) (by decide), A 10 _ (by decide) (by decide), A 11 _ (by decide) (by decide), A 19 _ (by decide) (by decide), A 12 _ (by decide) (by decide), A 25 _ (by decide) (by decide), A 27 _ (by decide) (by decide), A 13 _ (by decide) (by decide), A 20 _ (by decide) (by decide), A 24 _ (by decide) (by decide)]
  refine ⟨fun e => ⟨by omega, ?_⟩, fun e => ⟨by omega, ?_⟩, fun e => ⟨by omega, ?_⟩, fun e => ⟨by omega, ?_⟩, fun e => ⟨by omega, ?_⟩, fun e => ⟨by omega, ?_⟩, fun e => ⟨by omega, ?_⟩, fun e => ⟨by omega, ?_⟩, fun e => ⟨by omega, ?_⟩, fun e => ⟨by omega, fun z => ?_, fun z => ⟨by omega, ?_⟩⟩, fun e => ?_⟩
  · rwa [if_pos e] at hk
  · rwa [if_neg (by omega), if_pos e] at hk
  · rwa [if_neg (by omega), if_neg (by omega), if_pos e] at hk
  · rwa [if_neg (by omega), if_neg (by omega), if_neg (by omega), if_pos e] at hk
  · rwa [if_neg (by omega), if_neg (by omega), if_neg (by omega), if_neg (by omega), if_pos e] at hk
  · rwa [if_neg (by omega), if_neg (by omega), if_neg (by omega), if_neg (by omega), if_neg (by omega), if_pos e] at hk
  · rwa [if_neg (by omega), if_neg (by omega), if_neg (by omega), if_neg (by omega), if_neg (by omega), if_neg (by omega), if_pos e] at hk
  · rwa [if_neg (by omega), if_neg (by omega), if_neg (by omega), if_neg (by omega), if_neg (by omega), if_neg (by omega), if_neg (by omega), if_pos e] at hk
  · rwa [if_neg (by omega), if_neg (by omega), if_neg (by omega), if_neg (by omega), if_neg (by omega), if_neg (by omega), if_neg (by omega), if_neg (by omega), if_pos e] at hk
  · rwa [if_neg (by omega), if_neg (by omega), if_neg (by omega), if_neg (by omega), if_neg (by omega), if_neg (by omega), if_neg (by omega), if_neg (by omega), if_neg (by omega), if_pos e, if_neg (by omega)] at hk
  · rwa [if_neg (by omega), if_neg (by omega), if_neg (by omega), if_neg (by omega), if_neg (by omega), if_neg (by omega), if_neg (by omega), if_neg (by omega), if_neg (by omega), if_pos e, if_pos (by omega)] at hk
  · rwa [if_neg (by omega), if_neg (by omega), if_neg (by omega), if_neg (by omega), if_neg (by omega), if_neg (by omega), if_neg (by omega), if_neg (by omega), if_neg (by omega), if_neg (by omega)] at hk
noncomputable def aboA (D : St) (h t i : Int) : Int := cif (inT D h t) (if 0 ≤ i ∧ i < D 20 (24 * h + t) then ab D h t i else -13) (-11)
theorem C_above {t i : Int} {k : Int → Prop} (P : PC S E b D h) (hk : k (aboA D h t i)) : wX7_above S t i k := by
  unfold wX7_above wX7_above_0
  unfold aboA at hk
  refine C_isT P (fun ht => ⟨fun _ y ey => ?_, fun z => absurd z (by decide)⟩) (fun ht => ⟨fun z => absurd rfl z, fun _ => by rwa [cif_neg ht] at hk⟩)
  rw [cif_pos ht] at hk
  have h24 := P.n24
  have ht1 := ht.1
  have ht2 := ht.2
  have rA := (P.rt ht).2.2.2.1
  have hU := (P.2.2.2.2.2.1.1.2 t ht.1 ht.2).2.2.1
  rw [P.2.1] at ey
  refine ⟨by rw [ey]; exact isO_b P.2.2.1, by omega, fun x ex => ?_⟩
  have ex : x = ty b t := by rw [ex, ey]; rfl
  rw [ex, P.t ht, rA.1]
  refine ⟨fun c => by rwa [if_neg (by omega)] at hk, fun c => ⟨fun c2 => by rwa [if_neg (by omega)] at hk, fun c2 => ⟨by omega, ?_⟩⟩⟩
  rw [if_pos ⟨c, c2⟩] at hk
  rw [P.1 _ _ (by unfold ty; omega) (by unfold ty; omega), rA.2.1 i c c2]
  exact hk
theorem R_above {t i : Int} {k : Int → St → Prop} (P : PR S D h) (hk : ∀ S', offG S S' → k (aboA D h t i) S') : wX8_above S t i k := by
  unfold wX8_above wX8_above_0
  unfold aboA at hk
  have hb01 : 0 ≤ h ∧ h ≤ 1 := by have := P.2.2.1; unfold half01 at this; omega
  have h24 := P.2.2.2.1.1.1
  refine R_isT P (fun ht S1 o hS1 => ⟨fun _ => R_t hS1 P.2.2.1 (by have := ht.1; have := ht.2; omega) ?_, fun z => absurd z (by decide)⟩) (fun ht S1 o hS1 => ⟨fun z => absurd rfl z, fun _ => by have := hk S1 o; rwa [cif_neg ht] at this⟩)
  have hk := hk S1 o
  have A := (P.off o).1
  rw [cif_pos ht] at hk
  have ht1 := ht.1
  have ht2 := ht.2
  have hU := (P.2.2.2.1.1.2 t ht.1 ht.2).2.2.1
  rw [A 20 _ (by decide) (by decide), w32_eq (by omega) (by omega)]
  refine ⟨by omega, R_in _ ?_⟩
  by_cases c : 0 ≤ i ∧ i < D 20 (24 * h + t)
  · rw [if_pos c] at hk
    rw [if_pos (by omega)]
    refine ⟨fun z => absurd z (by decide), fun _ => R_t hS1 P.2.2.1 (by omega) ?_⟩
    rw [w32_eq (x := 24 * (24 * h + t)) (by omega) (by omega), w32_eq (by omega) (by omega), A 21 _ (by decide) (by decide)]
    exact ⟨by omega, hk⟩
  · rw [if_neg c] at hk
    rw [if_neg (by omega)]
    exact ⟨fun _ => hk, fun z => absurd rfl z⟩
noncomputable def undA (D : St) (h t u : Int) : Int := cif (inT D h t ∧ inT D h u) (cif (und D h t u) 1 0) (-11)
theorem PC.c24 {t : Int} (P : PC S E b D h) (ht : inT D h t) : 0 ≤ t ∧ t < 24 := by have := P.n24; have := ht.1; have := ht.2; omega
theorem PR.c24 {t : Int} (P : PR S D h) (ht : inT D h t) : 0 ≤ t ∧ t < 24 := by have := P.2.2.2.1.1.1; have := ht.1; have := ht.2; omega
theorem C_under {t u : Int} {k : Int → Prop} (P : PC S E b D h) (hk : k (undA D h t u)) : wX7_under S t u k := by
  unfold wX7_under wX7_under_0
  unfold undA at hk
  refine C_isT P (fun ht => ⟨fun z => absurd z (by decide), fun _ => C_isT P (fun hu => ⟨fun _ y ey => ?_, fun z => absurd z (by decide)⟩) (fun hu => ⟨fun z => absurd rfl z, fun _ => by rwa [cif_neg (fun g => hu g.2)] at hk⟩)⟩) (fun ht => ⟨fun _ => by rwa [cif_neg (fun g => ht g.1)] at hk, fun z => absurd rfl z⟩)
  rw [cif_pos ⟨ht, hu⟩] at hk
  rw [P.2.1] at ey
  rw [ey]
  refine ⟨isO_b P.2.2.1, C_isUnder P.1 (P.c24 ht) (P.c24 hu) (fun _ => (P.rt ht).2.2.2.1) (fun g => ?_) (fun g => ?_)⟩
  · rw [cif_pos g] at hk
    exact ⟨fun z => absurd z (by decide), fun _ => hk⟩
  · rw [cif_neg g] at hk
    exact ⟨fun _ => hk, fun z => absurd rfl z⟩
theorem R_under {t u : Int} {k : Int → St → Prop} (P : PR S D h) (hk : ∀ S', offG S S' → k (undA D h t u) S') : wX8_under S t u k := by
  unfold wX8_under wX8_under_0
  unfold undA at hk
  refine R_isT P (fun ht S1 o hS1 => ⟨fun z => absurd z (by decide), fun _ => R_isT (P.off o) (fun hu S2 o2 hS2 => ⟨fun _ => ?_, fun z => absurd z (by decide)⟩) (fun hu S2 o2 hS2 => ⟨fun z => absurd rfl z, fun _ => by have := hk S2 (o.trans o2); rwa [cif_neg (fun g => hu g.2)] at this⟩)⟩) (fun ht S1 o hS1 => ⟨fun _ => by have := hk S1 o; rwa [cif_neg (fun g => ht g.1)] at this, fun z => absurd rfl z⟩)
  have hk := hk S2 (o.trans o2)
  rw [cif_pos ⟨ht, hu⟩] at hk
  refine R_und ((P.off o).off o2).1 hS2 P.2.2.1 (P.c24 ht) (P.c24 hu) (fun g => ?_) (fun g => ?_)
  · rw [cif_pos g] at hk
    exact ⟨fun z => absurd z (by decide), fun _ => hk⟩
  · rw [cif_neg g] at hk
    exact ⟨fun _ => hk, fun z => absurd rfl z⟩
noncomputable def memA (D : St) (h m w : Int) : Int := cif (inM D h m) (if w = 0 then D 28 (120 * h + m) else if w = 1 then D 30 (120 * h + m) else if w = 2 then D 31 (120 * h + m) else if w = 3 then D 32 (120 * h + m) else -12) (-11)
theorem C_member {m w : Int} {k : Int → Prop} (P : PC S E b D h) (hk : k (memA D h m w)) : wX7_member S m w k := by
  unfold wX7_member wX7_member_0
  unfold memA at hk
  refine C_isM P (fun hm => ⟨fun _ y ey => ?_, fun z => absurd z (by decide)⟩) (fun hm => ⟨fun z => absurd rfl z, fun _ => by rwa [cif_neg hm] at hk⟩)
  rw [cif_pos hm] at hk
  have m120 := P.m120
  have hm1 := hm.1
  have hm2 := hm.2
  obtain ⟨_, r1, r2, r3, r4, _⟩ := P.rm hm
  rw [P.2.1] at ey
  refine ⟨by rw [ey]; exact isO_b P.2.2.1, by omega, fun x ex => ?_⟩
  have ex : x = me b m := by rw [ex, ey]; rfl
  rw [ex, P.m hm, P.m hm, P.m hm, P.m hm, r1, r2, r3, r4]
  refine ⟨fun e => ?_, fun e => ?_, fun e => ?_, fun e => ?_, fun e => ?_⟩
  · rwa [if_pos e] at hk
  · rwa [if_neg (by omega), if_pos e] at hk
  · rwa [if_neg (by omega), if_neg (by omega), if_pos e] at hk
  · rwa [if_neg (by omega), if_neg (by omega), if_neg (by omega), if_pos e] at hk
  · rwa [if_neg (by omega), if_neg (by omega), if_neg (by omega), if_neg (by omega)] at hk
theorem PR.m120 (P : PR S D h) : D 4 h ≤ 120 := P.2.2.2.2.2.1.2
theorem R_member {m w : Int} {k : Int → St → Prop} (P : PR S D h) (hk : ∀ S', offG S S' → k (memA D h m w) S') : wX8_member S m w k := by
  unfold wX8_member wX8_member_0
  unfold memA at hk
  have hb01 : 0 ≤ h ∧ h ≤ 1 := by have := P.2.2.1; unfold half01 at this; omega
  have m120 := P.m120
  refine R_isM P (fun hm S1 o hS1 => ⟨fun _ => ?_, fun z => absurd z (by decide)⟩) (fun hm S1 o hS1 => ⟨fun z => absurd rfl z, fun _ => by have := hk S1 o; rwa [cif_neg hm] at this⟩)
  have hk := hk S1 o
  have A := (P.off o).1
  rw [cif_pos hm] at hk
  have hm1 := hm.1
  have hm2 := hm.2
  refine ⟨fun e0 => ⟨fun e1 => ⟨fun e2 => ⟨fun e3 => ?_, fun e3 => R_m hS1 P.2.2.1 (by omega) ⟨by omega, ?_⟩⟩, fun e2 => R_m hS1 P.2.2.1 (by omega) ⟨by omega, ?_⟩⟩, fun e1 => R_m hS1 P.2.2.1 (by omega) ⟨by omega, ?_⟩⟩, fun e0 => R_m hS1 P.2.2.1 (by omega) ⟨by omega, ?_⟩⟩
  · rwa [if_neg e0, if_neg e1, if_neg e2, if_neg e3] at hk
  · rw [A 32 _ (by decide) (by decide)]; rwa [if_neg e0, if_neg e1, if_neg e2, if_pos e3] at hk
  · rw [A 31 _ (by decide) (by decide)]; rwa [if_neg e0, if_neg e1, if_pos e2] at hk
  · rw [A 30 _ (by decide) (by decide)]; rwa [if_neg e0, if_pos e1] at hk
  · rw [A 28 _ (by decide) (by decide)]; rwa [if_pos e0] at hk
/-- kinds are never -9 -/
def okK (D : St) (h : Int) : Prop := (∀ m q, 0 ≤ m → m < D 4 h → 0 ≤ q → q ≤ 2 → (q < 2 → q < D 32 (120 * h + m)) → -3 ≤ D 33 (3 * (120 * h + m) + q) ∧ -3 ≤ kEr D h m q ∧ (100 ≤ D 33 (3 * (120 * h + m) + q) → D 33 (3 * (120 * h + m) + q) - 100 < D 13 (24 * h + D 28 (120 * h + m)))) ∧ ∀ m n, 0 ≤ m → m < D 4 h → 0 ≤ n → n < D 4 h → D 34 (120 * (120 * h + m) + n) = 0 ∨ D 34 (120 * (120 * h + m) + n) = 1
noncomputable def seeA (D : St) (h t m q : Int) : Int := cif (inT D h t ∧ inM D h m) (if q < 0 ∨ 2 < q then -12 else cif ((q < 2 ∧ D 32 (120 * h + m) ≤ q) ∨ ¬ und D h t (D 28 (120 * h + m))) (-13) (kSeen D h t m q)) (-11)
theorem C_seen {t m q : Int} {k : Int → Prop} (P : PC S E b D h) (K : okK D h) (hk : k (seeA D h t m q)) : wX7_seen S t m q k := by
  unfold wX7_seen wX7_seen_0
  unfold seeA at hk
  refine C_isT P (fun ht => ⟨fun z => absurd z (by decide), fun _ => C_isM P (fun hm => ⟨fun _ => ?_, fun z => absurd z (by decide)⟩) (fun hm => ⟨fun z => absurd rfl z, fun _ => by rwa [cif_neg (fun g => hm g.2)] at hk⟩)⟩) (fun ht => ⟨fun _ => by rwa [cif_neg (fun g => ht g.1)] at hk, fun z => absurd rfl z⟩)
  rw [cif_pos ⟨ht, hm⟩] at hk
  refine ⟨fun c => by rwa [if_pos (Or.inl c)] at hk, fun c => ⟨fun c2 y ey => ?_, fun c2 => by rwa [if_pos (Or.inr c2)] at hk⟩⟩
  rw [if_neg (by omega)] at hk
  have m120 := P.m120
  have h24 := P.n24
  have hm1 := hm.1
  have hm2 := hm.2
  have ht1 := ht.1
  have ht2 := ht.2
  obtain ⟨_, r1, r2, r3, r4, r5⟩ := P.rm hm
  obtain ⟨oM, oT, _⟩ := P.2.2.2.2.2.2.2.2.2.1 m hm1 hm2
  have hM28 := oM.2.1
  have eb := P.2.1
  rw [eb] at ey
  refine ⟨by rw [ey]; exact isO_b P.2.2.1, by omega, fun x ex => ?_⟩
  have ex : x = me b m := by rw [ex, ey]; rfl
  have e1 : S (me b m + 1) q = kOr D h m q (D 33 (3 * (120 * h + m) + q)) := (P.1 _ _ (by unfold me; omega) (by unfold me; omega)).trans (r5 q c c2).1
  rw [ex, e1, P.m hm, r1]
  by_cases g : q < 2 ∧ D 32 (120 * h + m) ≤ q
  · rw [cif_pos (Or.inl g)] at hk
    have : kOr D h m q (D 33 (3 * (120 * h + m) + q)) = -9 := by unfold kOr; rw [if_pos g]
    exact ⟨by omega, fun _ => hk, fun z => absurd this z⟩
  · have e9 : kOr D h m q (D 33 (3 * (120 * h + m) + q)) = D 33 (3 * (120 * h + m) + q) := by unfold kOr; rw [if_neg g]
    have K1 := K.1 m q hm1 hm2 c c2 (by omega)
    rw [e9]
    refine ⟨by omega, fun z => by omega, fun _ w ew => ?_⟩
    rw [eb] at ew
    refine ⟨by rw [ew]; exact isO_b P.2.2.1, ?_⟩
    rw [ew]
    refine C_isUnder P.1 (P.c24 ht) (by omega) (fun _ => (P.rt ht).2.2.2.1) (fun u => ⟨fun _ w2 ew2 => ?_, fun z => absurd z (by decide)⟩) (fun u => ⟨fun z => absurd rfl z, fun _ => by rwa [cif_pos (Or.inr u)] at hk⟩)
    rw [eb] at ew2
    refine ⟨by rw [ew2]; exact isO_b P.2.2.1, fun w3 ew3 => ?_⟩
    rw [eb] at ew3
    refine ⟨by rw [ew3]; exact isO_b P.2.2.1, by omega, fun v ev => ?_⟩
    have ev : v = ty b t := by rw [ev, ew3]; rfl
    rw [ev]
    rw [cif_neg (by rintro (z | z); exact g z; exact z u)] at hk
    unfold wX2_kindSeen wX2_kindSeen_0
    rw [e1, e9, P.m hm, r1]
    refine ⟨by omega, fun y ey => ?_⟩
    unfold kSeen at hk
    rw [← ey] at hk K1
    refine ⟨fun z => by rwa [if_neg (by omega)] at hk, fun z => ?_⟩
    rw [if_pos z] at hk
    have K2 := K1.2.2 z
    have hV : y - 100 < 2 := by
      have := (oM.2.2.2 q c c2)
      omega
    rw [w32_eq (x := D 28 (120 * h + m) * 2) (by omega) (by omega), w32_eq (x := D 28 (120 * h + m) * 2 + y) (by omega) (by omega), w32_eq (by omega) (by omega)]
    have e5 : S (ty b t + 5) (D 28 (120 * h + m) * 2 + y - 100) = sVar D h t (D 28 (120 * h + m)) (y - 100) := by
      have := (P.rt ht).2.2.2.2.1 (D 28 (120 * h + m)) (by omega) (by omega) u (y - 100) (by omega) (by omega)
      rw [P.1 _ _ (by unfold ty; omega) (by unfold ty; omega), ← this]
      congr 1
      omega
    rw [e5]
    exact ⟨by omega, hk⟩
theorem R_seen {t m q : Int} {k : Int → St → Prop} (P : PR S D h) (hk : ∀ S', offG S S' → k (seeA D h t m q) S') : wX8_seen S t m q k := by
  unfold wX8_seen wX8_seen_0
  unfold seeA at hk
  have hb01 : 0 ≤ h ∧ h ≤ 1 := by have := P.2.2.1; unfold half01 at this; omega
  have m120 := P.m120
  refine R_isT P (fun ht S1 o hS1 => ⟨fun z => absurd z (by decide), fun _ => R_isM (P.off o) (fun hm S2 o2 hS2 => ⟨fun _ => R_in _ ?_, fun z => absurd z (by decide)⟩) (fun hm S2 o2 hS2 => ⟨fun z => absurd rfl z, fun _ => by have := hk S2 (o.trans o2); rwa [cif_neg (fun g => hm g.2)] at this⟩)⟩) (fun ht S1 o hS1 => ⟨fun _ => by have := hk S1 o; rwa [cif_neg (fun g => ht g.1)] at this, fun z => absurd rfl z⟩)
  have hk := hk S2 (o.trans o2)
  have A := ((P.off o).off o2).1
  rw [cif_pos ⟨ht, hm⟩] at hk
  have hm1 := hm.1
  have hm2 := hm.2
  obtain ⟨oM, oT, _⟩ := P.2.2.2.2.2.2.2.1 m hm1 hm2
  by_cases c : 0 ≤ q ∧ q ≤ 2
  · rw [if_pos c]
    rw [if_neg (by omega)] at hk
    have fin : ¬ (q < 2 ∧ D 32 (120 * h + m) ≤ q) → wX8_seen_50 S2 t m q k := by
      intro g
      unfold wX8_seen_50
      refine R_m hS2 P.2.2.1 (by omega) ⟨by omega, ?_⟩
      rw [A 28 _ (by decide) (by decide)]
      refine R_und A hS2 P.2.2.1 (P.c24 ht) oM.2.1 (fun u => ⟨fun _ => ?_, fun z => absurd z (by decide)⟩) (fun u => ⟨fun z => absurd rfl z, fun _ => by rwa [cif_pos (Or.inr u)] at hk⟩)
      rw [cif_neg (by rintro (z | z); exact g z; exact z u)] at hk
      exact R_kindSeen A hS2 P.2.2.1 (P.c24 ht) oM.1 c (oM.2.2.2 q c.1 c.2) oM.2.1 hk
    refine ⟨fun _ => ⟨fun z => fin (fun g => by omega), fun z => R_m hS2 P.2.2.1 (by omega) ?_⟩, fun z => absurd z (by decide)⟩
    rw [A 32 _ (by decide) (by decide)]
    exact ⟨by omega, fun z2 => by rwa [cif_pos (Or.inl ⟨z, z2⟩)] at hk, fun z2 => fin (fun g => by omega)⟩
  · rw [if_neg c]
    rw [if_pos (by omega)] at hk
    exact ⟨fun z => absurd rfl z, fun _ => hk⟩
noncomputable def eraA (D : St) (h m q : Int) : Int := cif (inM D h m) (if q < 0 ∨ 2 < q then -12 else if q < 2 ∧ D 32 (120 * h + m) ≤ q then -13 else kEr D h m q) (-11)
theorem C_erased {m q : Int} {k : Int → Prop} (P : PC S E b D h) (K : okK D h) (hk : k (eraA D h m q)) : wX7_erased S m q k := by
  unfold wX7_erased wX7_erased_0
  unfold eraA at hk
  refine C_isM P (fun hm => ⟨fun _ => ?_, fun z => absurd z (by decide)⟩) (fun hm => ⟨fun z => absurd rfl z, fun _ => by rwa [cif_neg hm] at hk⟩)
  rw [cif_pos hm] at hk
  refine ⟨fun c => by rwa [if_pos (Or.inl c)] at hk, fun c => ⟨fun c2 y ey => ?_, fun c2 => by rwa [if_pos (Or.inr c2)] at hk⟩⟩
  rw [if_neg (by omega)] at hk
  have m120 := P.m120
  have hm1 := hm.1
  have hm2 := hm.2
  obtain ⟨_, r1, r2, r3, r4, r5⟩ := P.rm hm
  rw [P.2.1] at ey
  refine ⟨by rw [ey]; exact isO_b P.2.2.1, by omega, fun x ex => ⟨by omega, ?_⟩⟩
  have ex : x = me b m := by rw [ex, ey]; rfl
  have e1 : S (me b m + 2) q = kOr D h m q (kEr D h m q) := (P.1 _ _ (by unfold me; omega) (by unfold me; omega)).trans (r5 q c c2).2
  rw [ex, e1]
  unfold wX7_orNone wX7_orNone_0
  by_cases g : q < 2 ∧ D 32 (120 * h + m) ≤ q
  · rw [if_pos g] at hk
    have : kOr D h m q (kEr D h m q) = -9 := by unfold kOr; rw [if_pos g]
    exact ⟨fun z => absurd this z, fun _ => hk⟩
  · have e9 : kOr D h m q (kEr D h m q) = kEr D h m q := by unfold kOr; rw [if_neg g]
    have K1 := K.1 m q hm1 hm2 c c2 (by omega)
    rw [if_neg g] at hk
    rw [e9]
    exact ⟨fun _ => hk, fun z => by omega⟩
theorem R_erased {m q : Int} {k : Int → St → Prop} (P : PR S D h) (hk : ∀ S', offG S S' → k (eraA D h m q) S') : wX8_erased S m q k := by
  unfold wX8_erased wX8_erased_0
  unfold eraA at hk
  have hb01 : 0 ≤ h ∧ h ≤ 1 := by have := P.2.2.1; unfold half01 at this; omega
  have m120 := P.m120
  refine R_isM P (fun hm S2 o2 hS2 => ⟨fun _ => R_in _ ?_, fun z => absurd z (by decide)⟩) (fun hm S2 o2 hS2 => ⟨fun z => absurd rfl z, fun _ => by have := hk S2 o2; rwa [cif_neg hm] at this⟩)
  have hk := hk S2 o2
  have A := (P.off o2).1
  rw [cif_pos hm] at hk
  have hm1 := hm.1
  have hm2 := hm.2
  obtain ⟨oM, oT, _⟩ := P.2.2.2.2.2.2.2.1 m hm1 hm2
  by_cases c : 0 ≤ q ∧ q ≤ 2
  · rw [if_pos c]
    rw [if_neg (by omega)] at hk
    have fin : ¬ (q < 2 ∧ D 32 (120 * h + m) ≤ q) → wX8_erased_47 S2 m q k := by
      intro g
      unfold wX8_erased_47
      rw [if_neg g] at hk
      exact R_kindErased A hS2 P.2.2.1 oM.1 c (oM.2.2.2 q c.1 c.2) oM.2.1 hk
    refine ⟨fun _ => ⟨fun z => fin (fun g => by omega), fun z => R_m hS2 P.2.2.1 (by omega) ?_⟩, fun z => absurd z (by decide)⟩
    rw [A 32 _ (by decide) (by decide)]
    exact ⟨by omega, fun z2 => fin (fun g => by omega), fun z2 => by rwa [if_pos ⟨z, z2⟩] at hk⟩
  · rw [if_neg c]
    rw [if_pos (by omega)] at hk
    exact ⟨fun z => absurd rfl z, fun _ => hk⟩
theorem o_ix : ∀ m n : Int, 0 ≤ m → m < 121 → 0 ≤ n → n < 128 → 0 ≤ w32 (w32 (m * 2) + shr32 n 6) ∧ w32 (w32 (m * 2) + shr32 n 6) < 242 ∧ w32 (w32 (m * 2) + shr32 n 6) = 2 * m + n / 64 := by
  intro m n m0 m1 n0 n1
  have e1 : ∀ i : Nat, i < 128 → shr32 (i : Int) 6 = (i : Int) / 64 := by decide +kernel
  have e2 := e1 n.toNat (by omega)
  rw [show (n.toNat : Int) = n by omega] at e2
  rw [e2, w32_eq (x := m * 2) (by omega) (by omega), w32_eq (by omega) (by omega)]
  omega
noncomputable def ovrA (D : St) (h m n : Int) : Int := cif (inM D h m ∧ inM D h n) (cif (ovr D h m n) 1 0) (-11)
theorem C_overrides {m n : Int} {k : Int → Prop} (P : PC S E b D h) (hk : k (ovrA D h m n)) : wX7_overrides S m n k := by
  unfold wX7_overrides wX7_overrides_0
  unfold ovrA at hk
  refine C_isM P (fun ht => ⟨fun z => absurd z (by decide), fun _ => C_isM P (fun hu => ⟨fun _ y ey => ?_, fun z => absurd z (by decide)⟩) (fun hu => ⟨fun z => absurd rfl z, fun _ => by rwa [cif_neg (fun g => hu g.2)] at hk⟩)⟩) (fun ht => ⟨fun _ => by rwa [cif_neg (fun g => ht g.1)] at hk, fun z => absurd rfl z⟩)
  rw [cif_pos ⟨ht, hu⟩] at hk
  rw [P.2.1] at ey
  rw [ey]
  have m120 := P.m120
  have rO := P.2.2.2.2.1.2.2.2.2.2 m n ht.1 ht.2 hu.1 hu.2
  have ix := o_ix m n ht.1 (by have := ht.2; omega) hu.1 (by have := hu.2; omega)
  unfold wX2_hasOverride wX2_hasOverride_0
  rw [P.1 (b + 3) _ (by omega) (by omega)]
  unfold hasO at rO
  unfold wX7_yes wX7_yes_0
  refine ⟨isO_b P.2.2.1, ⟨ix.1, ix.2.1⟩, fun z => ?_, fun z => ?_⟩
  · rw [cif_neg (fun g => rO.mpr g z)] at hk
    exact ⟨fun _ => hk, fun z => absurd rfl z⟩
  · rw [cif_pos (rO.mp z)] at hk
    exact ⟨fun z => absurd z (by decide), fun _ => hk⟩
theorem R_isOver {m n : Int} {k : Int → Prop} (A : AgD S D) (hS : S 0 10 = h) (hh : half01 h) (hm : 0 ≤ m ∧ m < 120) (hn : 0 ≤ n ∧ n < 120) (h01 : D 34 (120 * (120 * h + m) + n) = 0 ∨ D 34 (120 * (120 * h + m) + n) = 1) (h1 : ovr D h m n → k 1) (h0 : ¬ ovr D h m n → k 0) : wX8_isOver S m n k := by
  have hb01 : 0 ≤ h ∧ h ≤ 1 := by unfold half01 at hh; omega
  unfold wX8_isOver wX8_isOver_0
  refine R_m hS hh (by omega) ?_
  rw [w32_eq (x := 120 * (120 * h + m)) (by omega) (by omega), w32_eq (by omega) (by omega), A 34 _ (by decide) (by decide)]
  refine ⟨by omega, h01, ?_⟩
  unfold ovr at h1 h0
  rcases h01 with e | e
  · rw [e] at h0 ⊢; exact h0 (fun z => z rfl)
  · rw [e] at h1 ⊢; exact h1 (by decide)
theorem R_overrides {m n : Int} {k : Int → St → Prop} (P : PR S D h) (K : okK D h) (hk : ∀ S', offG S S' → k (ovrA D h m n) S') : wX8_overrides S m n k := by
  unfold wX8_overrides wX8_overrides_0
  unfold ovrA at hk
  refine R_isM P (fun ht S1 o hS1 => ⟨fun z => absurd z (by decide), fun _ => R_isM (P.off o) (fun hu S2 o2 hS2 => ⟨fun _ => ?_, fun z => absurd z (by decide)⟩) (fun hu S2 o2 hS2 => ⟨fun z => absurd rfl z, fun _ => by have := hk S2 (o.trans o2); rwa [cif_neg (fun g => hu g.2)] at this⟩)⟩) (fun ht S1 o hS1 => ⟨fun _ => by have := hk S1 o; rwa [cif_neg (fun g => ht g.1)] at this, fun z => absurd rfl z⟩)
  have hk := hk S2 (o.trans o2)
  rw [cif_pos ⟨ht, hu⟩] at hk
  have m120 := P.m120
  refine R_isOver ((P.off o).off o2).1 hS2 P.2.2.1 ⟨ht.1, by have := ht.2; omega⟩ ⟨hu.1, by have := hu.2; omega⟩ (K.2 m n ht.1 ht.2 hu.1 hu.2) (fun g => ?_) (fun g => ?_)
  · rw [cif_pos g] at hk
    exact ⟨fun z => absurd z (by decide), fun _ => hk⟩
  · rw [cif_neg g] at hk
    exact ⟨fun _ => hk, fun z => absurd rfl z⟩
noncomputable def briA (D : St) (h t i w : Int) : Int := cif (inT D h t) (if w < 0 ∨ 4 < w then -12 else if i < 0 ∨ D 27 (24 * h + t) ≤ i then -13 else if w = 0 then D 35 (7200 * h + (D 26 (24 * h + t) + i)) else if w = 1 then D 36 (7200 * h + (D 26 (24 * h + t) + i)) else if w < 4 ∧ D 32 (120 * h + D 36 (7200 * h + (D 26 (24 * h + t) + i))) ≤ w - 2 then -13 else kEr D h (D 36 (7200 * h + (D 26 (24 * h + t) + i))) (w - 2)) (-11)
theorem C_bridge {t i w : Int} {k : Int → Prop} (P : PC S E b D h) (K : okK D h) (hk : k (briA D h t i w)) : wX7_bridge S t i w k := by
  unfold wX7_bridge wX7_bridge_0
  unfold briA at hk
  refine C_isT P (fun ht => ⟨fun _ => ?_, fun z => absurd z (by decide)⟩) (fun ht => ⟨fun z => absurd rfl z, fun _ => by rwa [cif_neg ht] at hk⟩)
  rw [cif_pos ht] at hk
  refine ⟨fun c => by rwa [if_pos (Or.inl c)] at hk, fun c => ⟨fun c2 y ey => ?_, fun c2 => by rwa [if_pos (Or.inr c2)] at hk⟩⟩
  rw [if_neg (by omega)] at hk
  have h24 := P.n24
  have m120 := P.m120
  have ht1 := ht.1
  have ht2 := ht.2
  have eb := P.2.1
  obtain ⟨b18, b19⟩ := (P.rt ht).2.2.2.2.2
  have hT := (P.2.2.2.2.2.1.1.2 t ht.1 ht.2).1
  have hB := hT.2.2.1
  have oZ := P.2.2.2.2.2.2.2.2.2.2 t ht.1 ht.2
  have oZ2 := oZ.2.1
  rw [eb] at ey
  refine ⟨by rw [ey]; exact isO_b P.2.2.1, by omega, fun x ex => ?_⟩
  have ex : x = ty b t := by rw [ex, ey]; rfl
  rw [ex, P.t ht, P.t ht, b18, b19]
  refine ⟨fun c3 => by rwa [if_pos (Or.inl c3)] at hk, fun c3 => ⟨fun c4 y ey => ?_, fun c4 => by rwa [if_pos (Or.inr c4)] at hk⟩⟩
  rw [if_neg (by omega)] at hk
  rw [w32_eq (by omega) (by omega)] at ey
  subst ey
  have rb := P.2.2.2.2.1.2.2.2.2.1 (D 26 (24 * h + t) + i) (by omega) (by omega)
  have a4 : S (b + 4) (D 26 (24 * h + t) + i) = D 35 (7200 * h + (D 26 (24 * h + t) + i)) := (P.1 _ _ (by omega) (by omega)).trans rb.1
  have a5 : S (b + 5) (D 26 (24 * h + t) + i) = D 36 (7200 * h + (D 26 (24 * h + t) + i)) := (P.1 _ _ (by omega) (by omega)).trans rb.2
  obtain ⟨n, en⟩ : ∃ n, n = D 36 (7200 * h + (D 26 (24 * h + t) + i)) := ⟨_, rfl⟩
  have hn1 := (hT.2.2.2.2 (D 26 (24 * h + t) + i) (by omega) (by omega)).1
  have hn2 := oZ.2.2 (D 26 (24 * h + t) + i) (by omega) (by omega)
  rw [← en] at hn1 hn2 hk a5
  refine ⟨fun w0 v ev => ?_, fun w0 v ev => ?_⟩
  · rw [if_neg w0] at hk
    rw [eb] at ev
    refine ⟨by rw [ev]; exact isO_b P.2.2.1, by omega, fun u eu => ?_⟩
    rw [ev, a5] at eu
    subst eu
    refine ⟨fun w1 v2 ev2 => ?_, fun w1 => by rwa [if_pos w1] at hk⟩
    rw [if_neg w1] at hk
    rw [eb] at ev2
    refine ⟨by rw [ev2]; exact isO_b P.2.2.1, by omega, fun z ez => ?_⟩
    have ez : z = me b u := by rw [ez, ev2]; rfl
    have hm : inM D h u := ⟨by omega, hn2⟩
    have r5 := (P.rm hm).2.2.2.2.2 (w - 2) (by omega) (by omega)
    rw [w32_eq (by omega) (by omega), ez, P.1 _ _ (by unfold me; omega) (by unfold me; omega), r5.2]
    refine ⟨by omega, ?_⟩
    unfold wX7_orNone wX7_orNone_0
    by_cases g : w < 4 ∧ D 32 (120 * h + u) ≤ w - 2
    · rw [if_pos g] at hk
      have : kOr D h u (w - 2) (kEr D h u (w - 2)) = -9 := by unfold kOr; rw [if_pos (by omega)]
      exact ⟨fun z => absurd this z, fun _ => hk⟩
    · rw [if_neg g] at hk
      have e9 : kOr D h u (w - 2) (kEr D h u (w - 2)) = kEr D h u (w - 2) := by unfold kOr; rw [if_neg (by omega)]
      have K1 := K.1 u (w - 2) hm.1 hm.2 (by omega) (by omega) (by omega)
      rw [e9]
      exact ⟨fun _ => hk, fun z => by omega⟩
  · rw [if_pos w0] at hk
    rw [eb] at ev
    rw [ev, a4]
    exact ⟨isO_b P.2.2.1, by omega, hk⟩
theorem R_bridge {t i w : Int} {k : Int → St → Prop} (P : PR S D h) (hk : ∀ S', offG S S' → k (briA D h t i w) S') : wX8_bridge S t i w k := by
  unfold wX8_bridge wX8_bridge_0
  unfold briA at hk
  have hb01 : 0 ≤ h ∧ h ≤ 1 := by have := P.2.2.1; unfold half01 at this; omega
  refine R_isT P (fun ht S2 o2 hS2 => ⟨fun _ => R_in _ ?_, fun z => absurd z (by decide)⟩) (fun ht S2 o2 hS2 => ⟨fun z => absurd rfl z, fun _ => by have := hk S2 o2; rwa [cif_neg ht] at this⟩)
  have hk := hk S2 o2
  have A := (P.off o2).1
  rw [cif_pos ht] at hk
  have c24 := P.c24 ht
  have hT := (P.2.2.2.1.1.2 t ht.1 ht.2).1
  have hB := hT.2.2.1
  by_cases c : 0 ≤ w ∧ w ≤ 4
  · rw [if_pos c]
    rw [if_neg (by omega)] at hk
    refine ⟨fun _ => R_t hS2 P.2.2.1 c24 ?_, fun z => absurd z (by decide)⟩
    rw [A 27 _ (by decide) (by decide), w32_eq (by omega) (by omega)]
    refine ⟨by omega, R_in _ ?_⟩
    by_cases c2 : 0 ≤ i ∧ i < D 27 (24 * h + t)
    · rw [if_pos (by omega)]
      rw [if_neg (by omega)] at hk
      refine ⟨fun _ => R_t hS2 P.2.2.1 c24 ?_, fun z => absurd z (by decide)⟩
      rw [A 26 _ (by decide) (by decide), hS2, w32_eq (x := 7200 * h) (by omega) (by omega), w32_eq (x := 7200 * h + D 26 (24 * h + t)) (by omega) (by omega), w32_eq (by omega) (by omega)]
      refine ⟨by omega, fun x ex => ?_⟩
      have ex : x = 7200 * h + (D 26 (24 * h + t) + i) := by omega
      subst ex
      refine ⟨by omega, fun n en => ?_⟩
      rw [A 36 _ (by decide) (by decide)] at en
      have oM := hT.2.2.2.2 (D 26 (24 * h + t) + i) (by omega) (by omega)
      rw [← en] at oM hk
      have hn1 := oM.1
      refine ⟨fun w2 => ⟨fun w4 => R_m hS2 P.2.2.1 (by omega) ?_, fun w4 => ?_⟩, fun w2 => ⟨fun w0 => ?_, fun w0 => ⟨by omega, ?_⟩⟩⟩
      · rw [if_neg (by omega), if_neg (by omega)] at hk
        rw [A 32 _ (by decide) (by decide), w32_eq (by omega) (by omega)]
        refine ⟨by omega, fun g => by rwa [if_pos ⟨by omega, g⟩] at hk, fun g => ?_⟩
        rw [if_neg (by omega)] at hk
        exact R_kindErased A hS2 P.2.2.1 oM.1 (by omega) (oM.2.2.2 _ (by omega) (by omega)) oM.2.1 hk
      · rw [if_neg (by omega), if_neg (by omega), if_neg (by omega), w4] at hk
        exact R_kindErased A hS2 P.2.2.1 oM.1 (by omega) (oM.2.2.2 2 (by omega) (by omega)) oM.2.1 hk
      · rwa [if_neg w0, if_pos (by omega)] at hk
      · rw [if_pos w0] at hk
        rw [A 35 _ (by decide) (by decide)]
        exact hk
    · rw [if_neg (by omega)]
      rw [if_pos (by omega)] at hk
      exact ⟨fun z => absurd rfl z, fun _ => hk⟩
  · rw [if_neg c]
    rw [if_pos (by omega)] at hk
    exact ⟨fun z => absurd rfl z, fun _ => hk⟩
noncomputable def samA (D : St) (h t u ne : Int) : Int := cif (inT D h t ∧ inT D h u) (if ne = 0 then cif (sam D h t u) 1 0 else cif (nst D h t u) 1 0) (-11)
theorem C_same {t u ne : Int} {k : Int → Prop} (P : PC S E b D h) (hk : k (samA D h t u ne)) : wX7_same S t u ne k := by
  unfold wX7_same wX7_same_0 wX7_same_44
  unfold samA at hk
  refine C_isT P (fun ht => ⟨fun z => absurd z (by decide), fun _ => C_isT P (fun hu => ⟨fun _ => ⟨fun n0 y ey => ?_, fun n0 y ey => ?_⟩, fun z => absurd z (by decide)⟩) (fun hu => ⟨fun z => absurd rfl z, fun _ => by rwa [cif_neg (fun g => hu g.2)] at hk⟩)⟩) (fun ht => ⟨fun _ => by rwa [cif_neg (fun g => ht g.1)] at hk, fun z => absurd rfl z⟩)
  · rw [cif_pos ⟨ht, hu⟩, if_pos n0] at hk
    rw [P.2.1] at ey
    rw [ey]
    refine ⟨isO_b P.2.2.1, C_samePackage P.1 (P.c24 ht) (P.c24 hu) (P.rt ht).1 (P.rt hu).1 (fun g => ?_) (fun g => ?_)⟩
    · rw [cif_pos g] at hk
      exact ⟨fun z => absurd z (by decide), fun _ => hk⟩
    · rw [cif_neg g] at hk
      exact ⟨fun _ => hk, fun z => absurd rfl z⟩
  · rw [cif_pos ⟨ht, hu⟩, if_neg n0] at hk
    rw [P.2.1] at ey
    rw [ey]
    refine ⟨isO_b P.2.2.1, C_sameNest P.1 (P.c24 ht) (P.c24 hu) (P.rt ht).1 (P.rt hu).1 (fun g => ?_) (fun g => ?_)⟩
    · rw [cif_pos g] at hk
      exact ⟨fun z => absurd z (by decide), fun _ => hk⟩
    · rw [cif_neg g] at hk
      exact ⟨fun _ => hk, fun z => absurd rfl z⟩
theorem R_same {t u ne : Int} {k : Int → St → Prop} (P : PR S D h) (hk : ∀ S', offG S S' → k (samA D h t u ne) S') : wX8_same S t u ne k := by
  unfold wX8_same wX8_same_0
  unfold samA at hk
  have hb01 : 0 ≤ h ∧ h ≤ 1 := by have := P.2.2.1; unfold half01 at this; omega
  refine R_isT P (fun ht S1 o hS1 => ⟨fun z => absurd z (by decide), fun _ => R_isT (P.off o) (fun hu S2 o2 hS2 => ⟨fun _ => ?_, fun z => absurd z (by decide)⟩) (fun hu S2 o2 hS2 => ⟨fun z => absurd rfl z, fun _ => by have := hk S2 (o.trans o2); rwa [cif_neg (fun g => hu g.2)] at this⟩)⟩) (fun ht S1 o hS1 => ⟨fun _ => by have := hk S1 o; rwa [cif_neg (fun g => ht g.1)] at this, fun z => absurd rfl z⟩)
  have hk := hk S2 (o.trans o2)
  have A := ((P.off o).off o2).1
  rw [cif_pos ⟨ht, hu⟩] at hk
  have t24 := P.c24 ht
  have u24 := P.c24 hu
  refine ⟨fun n0 => ?_, fun n0 => R_t hS2 P.2.2.1 t24 ⟨by omega, R_t hS2 P.2.2.1 u24 ⟨by omega, ?_⟩⟩⟩
  · rw [if_pos n0] at hk
    refine R_sam A hS2 P.2.2.1 t24 u24 (fun g => ?_) (fun g => ?_)
    · rw [cif_pos g] at hk
      exact ⟨fun z => absurd z (by decide), fun _ => hk⟩
    · rw [cif_neg g] at hk
      exact ⟨fun _ => hk, fun z => absurd rfl z⟩
  · rw [if_neg n0] at hk
    rw [A 12 _ (by decide) (by decide), A 12 _ (by decide) (by decide)]
    exact ⟨fun z => by rwa [cif_neg (p := nst D h t u) z] at hk, fun z => by rwa [cif_pos (p := nst D h t u) z] at hk⟩
end Ask
